/-! THE REFERENCE: a job begins -/
def gI (I : ab_II) (k : Nat) : En := (I 54 k, I 55 k, I 56 k)
def mSr (I : ab_II) (es : List En) : Prop := I 39 22 = nI es.length ∧ arr3 I 54 55 56 0 es
theorem gI3 {I : ab_II} {i : Nat} {a b c : Int32} : gI (ab_u2 (ab_u2 (ab_u2 I 54 i a) 55 i b) 56 i c) = va_up (gI I) i (a, b, c) := by
  funext j
  unfold gI
  by_cases h : j = i
  · subst h
    rw [up_at, ab_u2_n _ _ (Or.inl (by decide)), ab_u2_n _ _ (Or.inl (by decide)), ab_u2_s, ab_u2_n _ _ (Or.inl (by decide)), ab_u2_s, ab_u2_s]
  · rw [up_ne h, ab_u2_n _ _ (Or.inr h), ab_u2_n _ _ (Or.inr h), ab_u2_n _ _ (Or.inr h), ab_u2_n _ _ (Or.inr h), ab_u2_n _ _ (Or.inr h), ab_u2_n _ _ (Or.inr h), ab_u2_n _ _ (Or.inr h), ab_u2_n _ _ (Or.inr h), ab_u2_n _ _ (Or.inr h)]
theorem gI_39 {I : ab_II} {k : Nat} {x : Int32} : gI (ab_u2 I 39 k x) = gI I := by
  funext j
  unfold gI
  rw [ab_u2_r _ _ (show (54 : Nat) ≠ 39 by decide), ab_u2_r _ _ (show (55 : Nat) ≠ 39 by decide), ab_u2_r _ _ (show (56 : Nat) ≠ 39 by decide)]
theorem mSr.rl {I : ab_II} {es : List En} (h : arr3 I 54 55 56 0 es) : rl es.length (gI I) = es := by
  refine rl_ext rfl (fun j hj => ?_)
  obtain ⟨a, b, c⟩ := h j _ (List.getElem?_eq_getElem hj)
  rw [Nat.zero_add] at a b c
  rw [List.getElem?_eq_getElem hj]
  unfold gI
  rw [a, b, c]
theorem arr3_rl {I : ab_II} {s : Nat} {es : List En} (h : rl s (gI I) = es) : arr3 I 54 55 56 0 es := by
  intro j e he
  have hl := (List.getElem?_eq_some_iff.mp he).1
  rw [← h, rl_len] at hl
  rw [← h, rl_get hl] at he
  cases he
  rw [Nat.zero_add]
  exact ⟨rfl, rfl, rfl⟩
section M8
variable {σ : St} {n : Nat} {S : ab_SH} {R : ab_RR} {I : ab_II} {SL : Nat → List Nat}
theorem mSr.keep {I' : ab_II} {es : List En} (h : mSr I es) (h1 : I' 39 22 = I 39 22) (ha : I' 54 = I 54) (hb : I' 55 = I 55) (hc : I' 56 = I 56) : mSr I' es := ⟨by rw [h1]; exact h.1, h.2.keep ha hb hc⟩
theorem m_source_fin (hX : Fx n S R) (k nu v : Int32) {s t : Nat} (hs : s < 1200) (ht : t ≤ s) {post : ab_Po} (h22 : I 39 22 = nI s) (hpost : post none (n, S, R, ab_u2 (ab_u2 (ab_u2 (ab_u2 I 54 t k) 55 t nu) 56 t v) 39 22 (nI (s + 1)))) (L : List (Nat × Value)) (hL : ab_sub L [(0, .ref 39), (1, .int k), (2, .int nu), (3, .int v), (4, .int (nI t))]) : wp 0 0 0 0 MX7_source 104 L [] (n, S, R, I) post := by
  refine wp_loc hL ?_
  have z54 : (S 54).2 = 1200 := hX.len (by decide)
  have z55 : (S 55).2 = 1200 := hX.len (by decide)
  have z56 : (S 56).2 = 1200 := hX.len (by decide)
  have et : (nI t).toInt = t := tI_n (by omega)
  have ct : (nI t).toNatClampNeg = t := nI_c (by omega)
  first | refine wp_aload_n (pc := 104) dX7_source_104 rfl ?_ | refine wp_aload_nN (pc := 104) dX7_source_104 rfl ?_
  refine wp_getR (pc := 105) dX7_source_105 fl_LevelStoreModel_52 (by first | assumption | exact Fx.ok (by assumption) (by decide)) rfl (by first | assumption | exact Fx.ref (by assumption) rfl) ?_
  refine wp_iload (pc := 108) dX7_source_108 rfl ?_
  refine wp_iload_n (pc := 110) dX7_source_110 rfl ?_
  refine wp_iastore (pc := 111) dX7_source_111 (by first | assumption | exact Fx.ok (by assumption) (by decide)) (in_I (by omega) (by rw [z54]; omega)) ?_
  first | refine wp_aload_n (pc := 112) dX7_source_112 rfl ?_ | refine wp_aload_nN (pc := 112) dX7_source_112 rfl ?_
  refine wp_getR (pc := 113) dX7_source_113 fl_LevelStoreModel_55 (by first | assumption | exact Fx.ok (by assumption) (by decide)) rfl (by first | assumption | exact Fx.ref (by assumption) rfl) ?_
  refine wp_iload (pc := 116) dX7_source_116 rfl ?_
  refine wp_iload_n (pc := 118) dX7_source_118 rfl ?_
  refine wp_iastore (pc := 119) dX7_source_119 (by first | assumption | exact Fx.ok (by assumption) (by decide)) (in_I (by omega) (by rw [z55]; omega)) ?_
  first | refine wp_aload_n (pc := 120) dX7_source_120 rfl ?_ | refine wp_aload_nN (pc := 120) dX7_source_120 rfl ?_
  refine wp_getR (pc := 121) dX7_source_121 fl_LevelStoreModel_58 (by first | assumption | exact Fx.ok (by assumption) (by decide)) rfl (by first | assumption | exact Fx.ref (by assumption) rfl) ?_
  refine wp_iload (pc := 124) dX7_source_124 rfl ?_
  refine wp_iload_n (pc := 126) dX7_source_126 rfl ?_
  refine wp_iastore (pc := 127) dX7_source_127 (by first | assumption | exact Fx.ok (by assumption) (by decide)) (in_I (by omega) (by rw [z56]; omega)) ?_
  first | refine wp_aload_n (pc := 128) dX7_source_128 rfl ?_ | refine wp_aload_nN (pc := 128) dX7_source_128 rfl ?_
  refine wp_dup (pc := 129) dX7_source_129 rfl ?_
  refine wp_getI (pc := 130) dX7_source_130 fl_LevelStoreModel_140 (by first | assumption | exact Fx.ok (by assumption) (by decide)) rfl ?_
  rw [ct, ab_u2_n _ _ (Or.inl (by decide)), ab_u2_n _ _ (Or.inl (by decide)), ab_u2_n _ _ (Or.inl (by decide)), h22]
  refine wp_iconst (pc := 133) (v := 1) dX7_source_133 (by decide) ?_
  refine wp_iadd (pc := 134) dX7_source_134 ?_
  rw [nI_1]
  refine wp_putI (pc := 135) dX7_source_135 fl_LevelStoreModel_140 (by first | assumption | exact Fx.ok (by assumption) (by decide)) rfl rfl (Or.inl rfl) ?_
  refine wp_retv (pc := 138) dX7_source_138 rfl ?_
  exact hpost
theorem m_source_loop (hX : Fx n S R) (k nu v : Int32) {s : Nat} (hs : s < 1200) (f : Nat → En) (post : ab_Po) {I0 : ab_II}
    (hpost : ∀ (I' : ab_II), fM I0 I' [54, 55, 56] [22] → I' 39 22 = nI (s + 1) → rl (s + 1) (gI I') = ins (k, nu, v) (rl s f) → post none (n, S, R, I')) :
    ∀ (t : Nat) (y : Int32) (I : ab_II) (L : List (Nat × Value)), y = nI t → t ≤ s → (∀ j, j < t → gI I j = f j) → (∀ j, t < j → j ≤ s → gI I j = f (j - 1)) → (∀ j, t ≤ j → j < s → bh (f j) k nu) → fM I0 I [54, 55, 56] [22] → I 39 22 = nI s → ab_sub L [(0, .ref 39), (1, .int k), (2, .int nu), (3, .int v), (4, .int y)] →
    wp 0 0 0 0 MX7_source 6 L [] (n, S, R, I) post := by
  have z54 : (S 54).2 = 1200 := hX.len (by decide)
  have z55 : (S 55).2 = 1200 := hX.len (by decide)
  have z56 : (S 56).2 = 1200 := hX.len (by decide)
  have fin : ∀ (t : Nat) (y : Int32) (I : ab_II) (L : List (Nat × Value)), y = nI t → t ≤ s → (∀ j, j < t → gI I j = f j) → (∀ j, t < j → j ≤ s → gI I j = f (j - 1)) → (∀ j, t ≤ j → j < s → bh (f j) k nu) → (0 < t → ¬ bh (f (t - 1)) k nu) → fM I0 I [54, 55, 56] [22] → I 39 22 = nI s → ab_sub L [(0, .ref 39), (1, .int k), (2, .int nu), (3, .int v), (4, .int y)] →
      wp 0 0 0 0 MX7_source 104 L [] (n, S, R, I) post := by
    intro t y I L hy ht g1 g3 hb hnb hf h22 hL
    subst hy
    have eg : gI (ab_u2 (ab_u2 (ab_u2 (ab_u2 I 54 t k) 55 t nu) 56 t v) 39 22 (nI (s + 1))) = va_up (gI I) t (k, nu, v) := by
      rw [gI_39, gI3]
    refine m_source_fin hX k nu v hs ht h22 (hpost _ (hf.tr1 ((((fM.ua (by simp) (by decide)).tr1 (fM.ua (by simp) (by decide))).tr1 (fM.ua (by simp) (by decide))).tr1 (fM.uf (by simp)))) (ab_u2_s _ _ _ _) ?_) L hL
    rw [eg]
    exact ins_rl ht hb hnb (fun j hj => by rw [up_ne (by omega)]; exact g1 j hj) (up_at ..) (fun j h1 h2 => by rw [up_ne (by omega)]; exact g3 j h1 h2)
  intro t
  induction t with
  | zero =>
    intro y I L hy ht g1 g3 hb hf h22 hL0
    have hL1 := hL0
    refine wp_loc hL0 ?_
    have ey : y.toInt = 0 := by rw [hy]; rfl
    refine wp_iload (pc := 6) dX7_source_6 rfl ?_
    refine wp_if_le (pc := 8) (tgt := 104) dX7_source_8 (by decide) (fun hc => ?_) (fun hc => ?_)
    · skip
      exact fin 0 y I _ hy ht g1 g3 hb (fun q => absurd q (by omega)) hf h22 ⟨rfl, rfl, rfl, rfl, rfl, trivial⟩
    · omega
  | succ t ih =>
    intro y I L hy ht g1 g3 hb hf h22 hL0
    refine wp_loc hL0 ?_
    have ey : y.toInt = ((t + 1 : Nat) : Int) := by rw [hy, tI_n (by omega)]
    have cy : y.toNatClampNeg = t + 1 := by rw [tI_c]; omega
    have e1 : y - 1 = nI t := by rw [hy]; exact nI_pred t
    have e2 : (nI t).toInt = t := tI_n (by omega)
    have c2 : (nI t).toNatClampNeg = t := nI_c (by omega)
    have gt := g1 t (by omega)
    have f1 : I 54 t = (f t).1 := congrArg (fun e : En => e.1) gt
    have f2 : I 55 t = (f t).2.1 := congrArg (fun e : En => e.2.1) gt
    have nxt : bh (f t) k nu → ∀ L, ab_sub L [(0, .ref 39), (1, .int k), (2, .int nu), (3, .int v), (4, .int y)] → wp 0 0 0 0 MX7_source 50 L [] (n, S, R, I) post := by
      intro hbt L hL
      refine wp_loc hL ?_
      first | refine wp_aload_n (pc := 50) dX7_source_50 rfl ?_ | refine wp_aload_nN (pc := 50) dX7_source_50 rfl ?_
      refine wp_getR (pc := 51) dX7_source_51 fl_LevelStoreModel_52 (by first | assumption | exact Fx.ok (by assumption) (by decide)) rfl (by first | assumption | exact Fx.ref (by assumption) rfl) ?_
      refine wp_iload (pc := 54) dX7_source_54 rfl ?_
      first | refine wp_aload_n (pc := 56) dX7_source_56 rfl ?_ | refine wp_aload_nN (pc := 56) dX7_source_56 rfl ?_
      refine wp_getR (pc := 57) dX7_source_57 fl_LevelStoreModel_52 (by first | assumption | exact Fx.ok (by assumption) (by decide)) rfl (by first | assumption | exact Fx.ref (by assumption) rfl) ?_
      refine wp_iload (pc := 60) dX7_source_60 rfl ?_
      refine wp_iconst (pc := 62) (v := 1) dX7_source_62 (by decide) ?_
      refine wp_isub (pc := 63) dX7_source_63 ?_
      rw [e1]
      refine wp_iaload (pc := 64) dX7_source_64 (by first | assumption | exact Fx.ok (by assumption) (by decide)) (in_I (by omega) (by rw [z54]; omega)) ?_
      rw [c2]
      refine wp_iastore (pc := 65) dX7_source_65 (by first | assumption | exact Fx.ok (by assumption) (by decide)) (in_I (by omega) (by rw [z54]; omega)) ?_
      rw [cy]
      first | refine wp_aload_n (pc := 66) dX7_source_66 rfl ?_ | refine wp_aload_nN (pc := 66) dX7_source_66 rfl ?_
      refine wp_getR (pc := 67) dX7_source_67 fl_LevelStoreModel_55 (by first | assumption | exact Fx.ok (by assumption) (by decide)) rfl (by first | assumption | exact Fx.ref (by assumption) rfl) ?_
      refine wp_iload (pc := 70) dX7_source_70 rfl ?_
      first | refine wp_aload_n (pc := 72) dX7_source_72 rfl ?_ | refine wp_aload_nN (pc := 72) dX7_source_72 rfl ?_
      refine wp_getR (pc := 73) dX7_source_73 fl_LevelStoreModel_55 (by first | assumption | exact Fx.ok (by assumption) (by decide)) rfl (by first | assumption | exact Fx.ref (by assumption) rfl) ?_
      refine wp_iload (pc := 76) dX7_source_76 rfl ?_
      refine wp_iconst (pc := 78) (v := 1) dX7_source_78 (by decide) ?_
      refine wp_isub (pc := 79) dX7_source_79 ?_
      rw [e1]
      refine wp_iaload (pc := 80) dX7_source_80 (by first | assumption | exact Fx.ok (by assumption) (by decide)) (in_I (by omega) (by rw [z55]; omega)) ?_
      rw [c2, ab_u2_r _ _ (by decide)]
      refine wp_iastore (pc := 81) dX7_source_81 (by first | assumption | exact Fx.ok (by assumption) (by decide)) (in_I (by omega) (by rw [z55]; omega)) ?_
      rw [cy]
      first | refine wp_aload_n (pc := 82) dX7_source_82 rfl ?_ | refine wp_aload_nN (pc := 82) dX7_source_82 rfl ?_
      refine wp_getR (pc := 83) dX7_source_83 fl_LevelStoreModel_58 (by first | assumption | exact Fx.ok (by assumption) (by decide)) rfl (by first | assumption | exact Fx.ref (by assumption) rfl) ?_
      refine wp_iload (pc := 86) dX7_source_86 rfl ?_
      first | refine wp_aload_n (pc := 88) dX7_source_88 rfl ?_ | refine wp_aload_nN (pc := 88) dX7_source_88 rfl ?_
      refine wp_getR (pc := 89) dX7_source_89 fl_LevelStoreModel_58 (by first | assumption | exact Fx.ok (by assumption) (by decide)) rfl (by first | assumption | exact Fx.ref (by assumption) rfl) ?_
      refine wp_iload (pc := 92) dX7_source_92 rfl ?_
      refine wp_iconst (pc := 94) (v := 1) dX7_source_94 (by decide) ?_
      refine wp_isub (pc := 95) dX7_source_95 ?_
      rw [e1]
      refine wp_iaload (pc := 96) dX7_source_96 (by first | assumption | exact Fx.ok (by assumption) (by decide)) (in_I (by omega) (by rw [z56]; omega)) ?_
      rw [c2, ab_u2_n _ _ (Or.inl (by decide)), ab_u2_n _ _ (Or.inl (by decide))]
      refine wp_iastore (pc := 97) dX7_source_97 (by first | assumption | exact Fx.ok (by assumption) (by decide)) (in_I (by omega) (by rw [z56]; omega)) ?_
      rw [cy]
      refine wp_iinc (pc := 98) dX7_source_98 rfl (by decide) rfl ?_
      refine wp_goto (pc := 101) (tgt := 6) dX7_source_101 (by decide) ?_
      refine ih _ _ _ (by rw [hy]; exact nI_m1 t) (by omega) (fun j hj => ?_) (fun j h1 h2 => ?_) (fun j h1 h2 => ?_) (hf.tr1 (((fM.ua (by simp) (by decide)).tr1 (fM.ua (by simp) (by decide))).tr1 (fM.ua (by simp) (by decide)))) ?_ ⟨rfl, rfl, rfl, rfl, rfl, trivial⟩
      · rw [gI3, up_ne (by omega)]; exact g1 j (by omega)
      · rw [gI3]
        by_cases q : j = t + 1
        · rw [q, up_at, Nat.add_sub_cancel, ← gt]; rfl
        · rw [up_ne q]; exact g3 j (by omega) h2
      · by_cases q : j = t
        · rw [q]; exact hbt
        · exact hb j (by omega) h2
      · rw [ab_u2_r _ _ (by decide), ab_u2_r _ _ (by decide), ab_u2_r _ _ (by decide)]; exact h22
    refine wp_iload (pc := 6) dX7_source_6 rfl ?_
    refine wp_if_le (pc := 8) (tgt := 104) dX7_source_8 (by decide) (fun hc => ?_) (fun hc => ?_)
    · omega
    · skip
      first | refine wp_aload_n (pc := 11) dX7_source_11 rfl ?_ | refine wp_aload_nN (pc := 11) dX7_source_11 rfl ?_
      refine wp_getR (pc := 12) dX7_source_12 fl_LevelStoreModel_52 (by first | assumption | exact Fx.ok (by assumption) (by decide)) rfl (by first | assumption | exact Fx.ref (by assumption) rfl) ?_
      refine wp_iload (pc := 15) dX7_source_15 rfl ?_
      refine wp_iconst (pc := 17) (v := 1) dX7_source_17 (by decide) ?_
      refine wp_isub (pc := 18) dX7_source_18 ?_
      rw [e1]
      refine wp_iaload (pc := 19) dX7_source_19 (by first | assumption | exact Fx.ok (by assumption) (by decide)) (in_I (by omega) (by rw [z54]; omega)) ?_
      rw [c2, f1]
      refine wp_iload_n (pc := 20) dX7_source_20 rfl ?_
      refine wp_icmp_gt (pc := 21) (tgt := 50) dX7_source_21 (by decide) (fun hc => ?_) (fun hc => ?_)
      · skip
        exact nxt (by unfold bh; omega) _ ⟨rfl, rfl, rfl, rfl, rfl, trivial⟩
      · skip
        first | refine wp_aload_n (pc := 24) dX7_source_24 rfl ?_ | refine wp_aload_nN (pc := 24) dX7_source_24 rfl ?_
        refine wp_getR (pc := 25) dX7_source_25 fl_LevelStoreModel_52 (by first | assumption | exact Fx.ok (by assumption) (by decide)) rfl (by first | assumption | exact Fx.ref (by assumption) rfl) ?_
        refine wp_iload (pc := 28) dX7_source_28 rfl ?_
        refine wp_iconst (pc := 30) (v := 1) dX7_source_30 (by decide) ?_
        refine wp_isub (pc := 31) dX7_source_31 ?_
        rw [e1]
        refine wp_iaload (pc := 32) dX7_source_32 (by first | assumption | exact Fx.ok (by assumption) (by decide)) (in_I (by omega) (by rw [z54]; omega)) ?_
        rw [c2, f1]
        refine wp_iload_n (pc := 33) dX7_source_33 rfl ?_
        refine wp_icmp_ne (pc := 34) (tgt := 104) dX7_source_34 (by decide) (fun hc => ?_) (fun hc => ?_)
        · skip
          exact fin (t + 1) y I _ hy ht g1 g3 hb (fun _ => by rw [Nat.add_sub_cancel]; unfold bh; omega) hf h22 ⟨rfl, rfl, rfl, rfl, rfl, trivial⟩
        · skip
          first | refine wp_aload_n (pc := 37) dX7_source_37 rfl ?_ | refine wp_aload_nN (pc := 37) dX7_source_37 rfl ?_
          refine wp_getR (pc := 38) dX7_source_38 fl_LevelStoreModel_55 (by first | assumption | exact Fx.ok (by assumption) (by decide)) rfl (by first | assumption | exact Fx.ref (by assumption) rfl) ?_
          refine wp_iload (pc := 41) dX7_source_41 rfl ?_
          refine wp_iconst (pc := 43) (v := 1) dX7_source_43 (by decide) ?_
          refine wp_isub (pc := 44) dX7_source_44 ?_
          rw [e1]
          refine wp_iaload (pc := 45) dX7_source_45 (by first | assumption | exact Fx.ok (by assumption) (by decide)) (in_I (by omega) (by rw [z55]; omega)) ?_
          rw [c2, f2]
          refine wp_iload_n (pc := 46) dX7_source_46 rfl ?_
          refine wp_icmp_ge (pc := 47) (tgt := 104) dX7_source_47 (by decide) (fun hc => ?_) (fun hc => ?_)
          · skip
            exact fin (t + 1) y I _ hy ht g1 g3 hb (fun _ => by rw [Nat.add_sub_cancel]; unfold bh; omega) hf h22 ⟨rfl, rfl, rfl, rfl, rfl, trivial⟩
          · skip
            exact nxt (by unfold bh; omega) _ ⟨rfl, rfl, rfl, rfl, rfl, trivial⟩
theorem m_source (hX : Fx n S R) {es : List En} (h : mSr I es) (hs : es.length < 1200) (k nu v : Int32) : wp 0 0 0 0 MX7_source 0 [(0, .ref 39), (1, .int k), (2, .int nu), (3, .int v)] [] (n, S, R, I) (fun w hh => w = none ∧ ∃ I', hh = (n, S, R, I') ∧ fM I I' [54, 55, 56] [22] ∧ mSr I' (ins (k, nu, v) es)) := by
  first | refine wp_aload_n (pc := 0) dX7_source_0 rfl ?_ | refine wp_aload_nN (pc := 0) dX7_source_0 rfl ?_
  refine wp_getI (pc := 1) dX7_source_1 fl_LevelStoreModel_140 (by first | assumption | exact Fx.ok (by assumption) (by decide)) rfl ?_
  rw [h.1]
  refine wp_istore (pc := 4) dX7_source_4 (by decide) rfl ?_
  refine m_source_loop hX k nu v hs (gI I) _ (I0 := I) (fun I' hf h22 hr => ⟨rfl, I', rfl, hf, ?_, ?_⟩) es.length _ I _ rfl (Nat.le_refl _) (fun _ _ => rfl) (fun j h1 h2 => absurd h1 (by omega)) (fun j h1 h2 => absurd h1 (by omega)) fM.rf h.1 ⟨rfl, rfl, rfl, rfl, rfl, trivial⟩
  · rw [h22, ins_len]
  · rw [mSr.rl h.2] at hr
    exact arr3_rl hr
theorem m_begin_l1 (hX : Fx n S R) (l : Int32) {I0 : ab_II} (post : ab_Po) (hpost : ∀ J, fM I0 J [57] [] → (∀ f, f < 330 → J 57 f = 0) → ∀ L, ab_sub L [(0, .ref 39), (1, .int l)] → wp 0 0 0 0 MX7_begin 57 L [] (n, S, R, J) post) :
    ∀ (d t : Nat) (y : Int32) (J : ab_II) (L : List (Nat × Value)), 330 = t + d → y = nI t → fM I0 J [57] [] → (∀ f, f < t → J 57 f = 0) → ab_sub L [(0, .ref 39), (1, .int l), (2, .int y)] → wp 0 0 0 0 MX7_begin 37 L [] (n, S, R, J) post := by
  have z : (S 57).2 = 330 := hX.len (by decide)
  have t330 : (330 : Int32).toInt = 330 := by decide +kernel
  intro d
  induction d with
  | zero =>
    intro t y J L ht hy hf hv hL0
    refine wp_loc hL0 ?_
    have ey : y.toInt = t := by rw [hy, tI_n (by omega)]
    refine wp_iload_n (pc := 37) dX7_begin_37 rfl ?_
    refine wp_sipush (pc := 38) (v := 330) dX7_begin_38 (by decide) ?_
    refine wp_icmp_ge (pc := 41) (tgt := 57) dX7_begin_41 (by decide) (fun hc => ?_) (fun hc => ?_)
    · skip
      exact hpost J hf (fun f q => hv f (by omega)) _ ⟨rfl, rfl, trivial⟩
    · rw [t330] at hc; omega
  | succ d ih =>
    intro t y J L ht hy hf hv hL0
    refine wp_loc hL0 ?_
    have ey : y.toInt = t := by rw [hy, tI_n (by omega)]
    have cy : y.toNatClampNeg = t := by rw [tI_c]; omega
    refine wp_iload_n (pc := 37) dX7_begin_37 rfl ?_
    refine wp_sipush (pc := 38) (v := 330) dX7_begin_38 (by decide) ?_
    refine wp_icmp_ge (pc := 41) (tgt := 57) dX7_begin_41 (by decide) (fun hc => ?_) (fun hc => ?_)
    · rw [t330] at hc; omega
    · skip
      first | refine wp_aload_n (pc := 44) dX7_begin_44 rfl ?_ | refine wp_aload_nN (pc := 44) dX7_begin_44 rfl ?_
      refine wp_getR (pc := 45) dX7_begin_45 fl_LevelStoreModel_61 (by first | assumption | exact Fx.ok (by assumption) (by decide)) rfl (by first | assumption | exact Fx.ref (by assumption) rfl) ?_
      refine wp_iload_n (pc := 48) dX7_begin_48 rfl ?_
      refine wp_iconst (pc := 49) (v := 0) dX7_begin_49 (by decide) ?_
      refine wp_bastore (pc := 50) dX7_begin_50 (by first | assumption | exact Fx.ok (by assumption) (by decide)) (in_I (by omega) (by rw [z]; omega)) (by first | exact Or.inl rfl | exact Or.inr rfl | assumption) ?_
      rw [cy]
      refine wp_iinc (pc := 51) dX7_begin_51 rfl (by decide) rfl ?_
      refine wp_goto (pc := 54) (tgt := 37) dX7_begin_54 (by decide) ?_
      refine ih (t + 1) _ _ _ (by omega) (by rw [hy]; exact nI_i1 t) (hf.tr1 (fM.ua (by simp) (by decide))) (fun f q => ?_) ⟨rfl, rfl, rfl, trivial⟩
      by_cases q2 : f = t
      · rw [q2, ab_u2_s]
      · rw [ab_u2_n _ _ (Or.inr q2)]; exact hv f (by omega)
theorem m_begin_l2 (hX : Fx n S R) (l : Int32) {I0 : ab_II} (post : ab_Po) (hpost : ∀ J, fM I0 J [58] [] → (∀ k, k < 3 → J 58 k = I0 43 k) → post none (n, S, R, J)) :
    ∀ (d t : Nat) (y : Int32) (J : ab_II) (L : List (Nat × Value)), 3 = t + d → y = nI t → fM I0 J [58] [] → (∀ k, k < t → J 58 k = I0 43 k) → ab_sub L [(0, .ref 39), (1, .int l), (2, .int y)] → wp 0 0 0 0 MX7_begin 59 L [] (n, S, R, J) post := by
  have z : (S 58).2 = 3 := hX.len (by decide)
  have z2 : (S 43).2 = 3 := hX.len (by decide)
  intro d
  induction d with
  | zero =>
    intro t y J L ht hy hf hv hL0
    refine wp_loc hL0 ?_
    have ey : y.toInt = t := by rw [hy, tI_n (by omega)]
    refine wp_iload_n (pc := 59) dX7_begin_59 rfl ?_
    refine wp_iconst (pc := 60) (v := 3) dX7_begin_60 (by decide) ?_
    refine wp_icmp_ge (pc := 61) (tgt := 82) dX7_begin_61 (by decide) (fun hc => ?_) (fun hc => ?_)
    · skip
      refine wp_retv (pc := 82) dX7_begin_82 rfl ?_
      exact hpost J hf (fun k q => hv k (by omega))
    · rw [tl_3] at hc; omega
  | succ d ih =>
    intro t y J L ht hy hf hv hL0
    refine wp_loc hL0 ?_
    have ey : y.toInt = t := by rw [hy, tI_n (by omega)]
    have cy : y.toNatClampNeg = t := by rw [tI_c]; omega
    refine wp_iload_n (pc := 59) dX7_begin_59 rfl ?_
    refine wp_iconst (pc := 60) (v := 3) dX7_begin_60 (by decide) ?_
    refine wp_icmp_ge (pc := 61) (tgt := 82) dX7_begin_61 (by decide) (fun hc => ?_) (fun hc => ?_)
    · rw [tl_3] at hc; omega
    · skip
      first | refine wp_aload_n (pc := 64) dX7_begin_64 rfl ?_ | refine wp_aload_nN (pc := 64) dX7_begin_64 rfl ?_
      refine wp_getR (pc := 65) dX7_begin_65 fl_LevelStoreModel_65 (by first | assumption | exact Fx.ok (by assumption) (by decide)) rfl (by first | assumption | exact Fx.ref (by assumption) rfl) ?_
      refine wp_iload_n (pc := 68) dX7_begin_68 rfl ?_
      first | refine wp_aload_n (pc := 69) dX7_begin_69 rfl ?_ | refine wp_aload_nN (pc := 69) dX7_begin_69 rfl ?_
      refine wp_getR (pc := 70) dX7_begin_70 fl_LevelStoreModel_19 (by first | assumption | exact Fx.ok (by assumption) (by decide)) rfl (by first | assumption | exact Fx.ref (by assumption) rfl) ?_
      refine wp_iload_n (pc := 73) dX7_begin_73 rfl ?_
      refine wp_iaload (pc := 74) dX7_begin_74 (by first | assumption | exact Fx.ok (by assumption) (by decide)) (in_I (by omega) (by rw [z2]; omega)) ?_
      rw [cy, hf.1 43 (by simp) (by decide)]
      refine wp_iastore (pc := 75) dX7_begin_75 (by first | assumption | exact Fx.ok (by assumption) (by decide)) (in_I (by omega) (by rw [z]; omega)) ?_
      rw [cy]
      refine wp_iinc (pc := 76) dX7_begin_76 rfl (by decide) rfl ?_
      refine wp_goto (pc := 79) (tgt := 59) dX7_begin_79 (by decide) ?_
      refine ih (t + 1) _ _ _ (by omega) (by rw [hy]; exact nI_i1 t) (hf.tr1 (fM.ua (by simp) (by decide))) (fun k q => ?_) ⟨rfl, rfl, rfl, trivial⟩
      by_cases q2 : k = t
      · rw [q2, ab_u2_s]
      · rw [ab_u2_n _ _ (Or.inr q2)]; exact hv k (by omega)
theorem m_begin_57 (hX : Fx n S R) (l : Int32) (post : ab_Po) (hk : ∀ L, ab_sub L [(0, .ref 39), (1, .int l), (2, .int 0)] → wp 0 0 0 0 MX7_begin 59 L [] (n, S, R, I) post) (L : List (Nat × Value)) (hL : ab_sub L [(0, .ref 39), (1, .int l)]) : wp 0 0 0 0 MX7_begin 57 L [] (n, S, R, I) post := by
  refine wp_loc hL ?_
  refine wp_iconst (pc := 57) (v := 0) dX7_begin_57 (by decide) ?_
  refine wp_istore_n (pc := 58) dX7_begin_58 (by decide) rfl ?_
  exact hk _ ⟨rfl, rfl, rfl, trivial⟩
/-- what begin leaves -/
def begP (I J : ab_II) (l : Int32) : Prop := fM I J [57, 58] [20, 21, 22, 23, 30, 31, 32] ∧ (J 39 20 = 1 ∧ J 39 31 = 0 ∧ J 39 21 = l ∧ J 39 22 = 0 ∧ J 39 23 = 0 ∧ J 39 30 = 0 ∧ J 39 32 = 0) ∧ (∀ f, f < 330 → J 57 f = 0) ∧ ∀ k, k < 3 → J 58 k = I 43 k
theorem m_begin (hX : Fx n S R) (l : Int32) : wp 0 0 0 0 MX7_begin 0 [(0, .ref 39), (1, .int l)] [] (n, S, R, I) (fun v hh => v = none ∧ ∃ J, hh = (n, S, R, J) ∧ begP I J l) := by
  first | refine wp_aload_n (pc := 0) dX7_begin_0 rfl ?_ | refine wp_aload_nN (pc := 0) dX7_begin_0 rfl ?_
  refine wp_iconst (pc := 1) (v := 1) dX7_begin_1 (by decide) ?_
  refine wp_putI (pc := 2) dX7_begin_2 fl_LevelStoreModel_143 (by first | assumption | exact Fx.ok (by assumption) (by decide)) rfl rfl (Or.inr ⟨rfl, by first | exact Or.inl rfl | exact Or.inr rfl | assumption⟩) ?_
  first | refine wp_aload_n (pc := 5) dX7_begin_5 rfl ?_ | refine wp_aload_nN (pc := 5) dX7_begin_5 rfl ?_
  refine wp_iconst (pc := 6) (v := 0) dX7_begin_6 (by decide) ?_
  refine wp_putI (pc := 7) dX7_begin_7 fl_LevelStoreModel_147 (by first | assumption | exact Fx.ok (by assumption) (by decide)) rfl rfl (Or.inr ⟨rfl, by first | exact Or.inl rfl | exact Or.inr rfl | assumption⟩) ?_
  first | refine wp_aload_n (pc := 10) dX7_begin_10 rfl ?_ | refine wp_aload_nN (pc := 10) dX7_begin_10 rfl ?_
  refine wp_iload_n (pc := 11) dX7_begin_11 rfl ?_
  refine wp_putI (pc := 12) dX7_begin_12 fl_LevelStoreModel_150 (by first | assumption | exact Fx.ok (by assumption) (by decide)) rfl rfl (Or.inl rfl) ?_
  first | refine wp_aload_n (pc := 15) dX7_begin_15 rfl ?_ | refine wp_aload_nN (pc := 15) dX7_begin_15 rfl ?_
  refine wp_iconst (pc := 16) (v := 0) dX7_begin_16 (by decide) ?_
  refine wp_putI (pc := 17) dX7_begin_17 fl_LevelStoreModel_140 (by first | assumption | exact Fx.ok (by assumption) (by decide)) rfl rfl (Or.inl rfl) ?_
  first | refine wp_aload_n (pc := 20) dX7_begin_20 rfl ?_ | refine wp_aload_nN (pc := 20) dX7_begin_20 rfl ?_
  refine wp_iconst (pc := 21) (v := 0) dX7_begin_21 (by decide) ?_
  refine wp_putI (pc := 22) dX7_begin_22 fl_LevelStoreModel_153 (by first | assumption | exact Fx.ok (by assumption) (by decide)) rfl rfl (Or.inl rfl) ?_
  first | refine wp_aload_n (pc := 25) dX7_begin_25 rfl ?_ | refine wp_aload_nN (pc := 25) dX7_begin_25 rfl ?_
  refine wp_iconst (pc := 26) (v := 0) dX7_begin_26 (by decide) ?_
  refine wp_putI (pc := 27) dX7_begin_27 fl_LevelStoreModel_156 (by first | assumption | exact Fx.ok (by assumption) (by decide)) rfl rfl (Or.inl rfl) ?_
  first | refine wp_aload_n (pc := 30) dX7_begin_30 rfl ?_ | refine wp_aload_nN (pc := 30) dX7_begin_30 rfl ?_
  refine wp_iconst (pc := 31) (v := 0) dX7_begin_31 (by decide) ?_
  refine wp_putI (pc := 32) dX7_begin_32 fl_LevelStoreModel_159 (by first | assumption | exact Fx.ok (by assumption) (by decide)) rfl rfl (Or.inl rfl) ?_
  have hf0 : fM I (ab_u2 (ab_u2 (ab_u2 (ab_u2 (ab_u2 (ab_u2 (ab_u2 I 39 20 1) 39 31 0) 39 21 l) 39 22 0) 39 23 0) 39 30 0) 39 32 0) [57, 58] [20, 21, 22, 23, 30, 31, 32] := ((((((fM.uf (by simp)).tr1 (fM.uf (by simp))).tr1 (fM.uf (by simp))).tr1 (fM.uf (by simp))).tr1 (fM.uf (by simp))).tr1 (fM.uf (by simp))).tr1 (fM.uf (by simp))
  have hv0 : ∀ Q : ab_II, Q = (ab_u2 (ab_u2 (ab_u2 (ab_u2 (ab_u2 (ab_u2 (ab_u2 I 39 20 1) 39 31 0) 39 21 l) 39 22 0) 39 23 0) 39 30 0) 39 32 0) → Q 39 20 = 1 ∧ Q 39 31 = 0 ∧ Q 39 21 = l ∧ Q 39 22 = 0 ∧ Q 39 23 = 0 ∧ Q 39 30 = 0 ∧ Q 39 32 = 0 := fun Q e => by subst e; simp [ab_u2]
  have hv := hv0 _ rfl
  generalize (ab_u2 (ab_u2 (ab_u2 (ab_u2 (ab_u2 (ab_u2 (ab_u2 I 39 20 1) 39 31 0) 39 21 l) 39 22 0) 39 23 0) 39 30 0) 39 32 0) = Q at hf0 hv ⊢
  refine wp_iconst (pc := 35) (v := 0) dX7_begin_35 (by decide) ?_
  refine wp_istore_n (pc := 36) dX7_begin_36 (by decide) rfl ?_
  refine m_begin_l1 hX l (I0 := Q) _ (fun J hf h0 L hL => m_begin_57 hX l _ (fun L2 hL2 => m_begin_l2 hX l (I0 := J) _ (fun J2 hf2 h02 => ⟨rfl, J2, rfl, ?_, ?_, ?_, ?_⟩) 3 0 _ J _ rfl rfl fM.rf (fun k q => by omega) hL2) L hL) 330 0 _ Q _ rfl rfl fM.rf (fun f q => by omega) ⟨rfl, rfl, rfl, trivial⟩
  · exact hf0.tr1 ((hf.tr (C'' := [57, 58]) (K'' := [20, 21, 22, 23, 30, 31, 32]) hf2 (by simp) (by simp) (by simp) (by simp)))
  · have e : ∀ k, J2 39 k = Q 39 k := fun k => (hf2.2 k (by simp)).trans (hf.2 k (by simp))
    rw [e, e, e, e, e, e, e]; exact hv
  · intro f q; rw [hf2.1 57 (by simp) (by decide)]; exact h0 f q
  · intro k q; rw [h02 k q, hf.1 43 (by simp) (by decide), hf0.1 43 (by simp) (by decide)]
theorem RM.beg (h : RM σ I SL) (h5 : σ.FS 5 = []) {J : ab_II} (hf : fM I J [53, 54, 55, 56, 57, 58] [18, 20, 21, 22, 23, 29, 30, 31, 32]) {tgt lf lt tf tt : Nat} {src : List En} (h20 : J 39 20 = 1) (h31 : J 39 31 = 0) (h21 : J 39 21 = nI tgt - 1) (h23 : J 39 23 = 0) (h30 : J 39 30 = 0) (h32 : J 39 32 = 0) (h29 : tgt = 0 → J 39 29 = nI src.length) (hs : mSr J src) (hne : src ≠ []) (h58 : ∀ k, k < 3 → J 58 k = I 43 k) (hb : ∀ f, f < 330 → bit (J 57 f) ((tgt ≠ 0 ∧ f ∈ ((SL (tgt - 1)).take lt).drop lf) ∨ f ∈ ((SL tgt).take tt).drop tf)) : RM (σ.beg tgt lf lt tf tt src) J SL := by
  have ka : ∀ j, j ≠ 39 → (j < 53 ∨ 58 < j) → J j = I j := fun j h1 h2 => hf.1 j (by simp; omega) h1
  have kf : ∀ k, k < 18 → J 39 k = I 39 k := fun k h1 => hf.2 k (by simp; omega)
  refine ⟨⟨⟨by rw [kf 1 (by decide)]; exact h.lg.1, h.lg.2.keep (ka _ (by decide) (by decide)) (ka _ (by decide) (by decide)) (ka _ (by decide) (by decide))⟩, ⟨by rw [kf 2 (by decide)]; exact h.dt.1, by rw [kf 6 (by decide)]; exact h.dt.2.1, fun k q => by rw [ka 43 (by decide) (by decide)]; exact h.dt.2.2 k q⟩, h.sl.keep (fun j h1 h2 => ka j (by omega) (by omega)), ⟨by rw [kf 16 (by decide)]; exact h.fd.1, fun j q => by rw [ka 52 (by decide) (by decide)]; exact h.fd.2 j q⟩, ⟨h20, ?_, fun _ => ⟨h21, hs.1, hs.2, fun k q => ?_, h29, h32, fun j e q => by simp [St.mak, St.beg] at q, hb⟩⟩⟩, fun _ => ⟨h23, ?_⟩⟩
  · show J 39 30 = nI (σ.FS 5).length
    rw [h30, h5]; rfl
  · rw [h58 k q]; exact h.dt.2.2 k q
  · show J 39 31 = if 0 = src.length then 1 else 0
    rw [if_neg (fun q => hne (List.eq_nil_of_length_eq_zero q.symm))]; exact h31
theorem m_flush_loop (hX : Fx n S R) {log : List En} (hl : log.length ≤ 24) {I0 : ab_II} (h1 : I0 39 1 = nI log.length) (h2 : arr3 I0 40 41 42 0 log) (post : ab_Po) (hpost : ∀ J, fM I0 J [54, 55, 56] [22] → mSr J (fsrc log) → post (some (.int (nI log.length))) (n, S, R, J)) :
    ∀ (d t : Nat) (y : Int32) (J : ab_II) (L : List (Nat × Value)), log.length = t + d → y = nI t → fM I0 J [54, 55, 56] [22] → mSr J (fsrc (log.take t)) → ab_sub L [(0, .ref 39), (1, .int y)] → wp 1 24 0 0 MX7_flush 37 L [] (n, S, R, J) post := by
  have z40 : (S 40).2 = 24 := hX.len (by decide)
  have z41 : (S 41).2 = 24 := hX.len (by decide)
  have z42 : (S 42).2 = 24 := hX.len (by decide)
  have e1 : (I0 39 1).toInt = log.length := by rw [h1, tI_n (by omega)]
  intro d
  induction d with
  | zero =>
    intro t y J L ht hy hf hs hL0
    refine wp_loc hL0 ?_
    have ey : y.toInt = t := by rw [hy, tI_n (by omega)]
    rw [List.take_of_length_le (by omega)] at hs
    refine wp_iload_n (pc := 37) dX7_flush_37 rfl ?_
    first | refine wp_aload_n (pc := 38) dX7_flush_38 rfl ?_ | refine wp_aload_nN (pc := 38) dX7_flush_38 rfl ?_
    refine wp_getI (pc := 39) dX7_flush_39 fl_LevelStoreModel_93 (by first | assumption | exact Fx.ok (by assumption) (by decide)) rfl ?_
    rw [hf.2 1 (by simp)]
    refine wp_icmp_ge (pc := 42) (tgt := 73) dX7_flush_42 (by decide) (fun hc => ?_) (fun hc => ?_)
    · skip
      first | refine wp_aload_n (pc := 73) dX7_flush_73 rfl ?_ | refine wp_aload_nN (pc := 73) dX7_flush_73 rfl ?_
      refine wp_getI (pc := 74) dX7_flush_74 fl_LevelStoreModel_140 (by first | assumption | exact Fx.ok (by assumption) (by decide)) rfl ?_
      refine wp_ret (pc := 77) dX7_flush_77 rfl (by first | trivial | exact Or.inl rfl | exact Or.inr rfl | assumption) ?_
      rw [hs.1, fsrc_len]; exact hpost J hf hs
    · omega
  | succ d ih =>
    intro t y J L ht hy hf hs hL0
    refine wp_loc hL0 ?_
    have ey : y.toInt = t := by rw [hy, tI_n (by omega)]
    have cy : y.toNatClampNeg = t := by rw [tI_c]; omega
    obtain ⟨a1, a2, a3⟩ := h2.at (j := t) (by omega)
    rw [Nat.zero_add] at a1 a2 a3
    refine wp_iload_n (pc := 37) dX7_flush_37 rfl ?_
    first | refine wp_aload_n (pc := 38) dX7_flush_38 rfl ?_ | refine wp_aload_nN (pc := 38) dX7_flush_38 rfl ?_
    refine wp_getI (pc := 39) dX7_flush_39 fl_LevelStoreModel_93 (by first | assumption | exact Fx.ok (by assumption) (by decide)) rfl ?_
    rw [hf.2 1 (by simp)]
    refine wp_icmp_ge (pc := 42) (tgt := 73) dX7_flush_42 (by decide) (fun hc => ?_) (fun hc => ?_)
    · omega
    · skip
      first | refine wp_aload_n (pc := 45) dX7_flush_45 rfl ?_ | refine wp_aload_nN (pc := 45) dX7_flush_45 rfl ?_
      first | refine wp_aload_n (pc := 46) dX7_flush_46 rfl ?_ | refine wp_aload_nN (pc := 46) dX7_flush_46 rfl ?_
      refine wp_getR (pc := 47) dX7_flush_47 fl_LevelStoreModel_7 (by first | assumption | exact Fx.ok (by assumption) (by decide)) rfl (by first | assumption | exact Fx.ref (by assumption) rfl) ?_
      refine wp_iload_n (pc := 50) dX7_flush_50 rfl ?_
      refine wp_iaload (pc := 51) dX7_flush_51 (by first | assumption | exact Fx.ok (by assumption) (by decide)) (in_I (by omega) (by rw [z40]; omega)) ?_
      rw [cy, hf.1 40 (by simp) (by decide), a1]
      first | refine wp_aload_n (pc := 52) dX7_flush_52 rfl ?_ | refine wp_aload_nN (pc := 52) dX7_flush_52 rfl ?_
      refine wp_getR (pc := 53) dX7_flush_53 fl_LevelStoreModel_13 (by first | assumption | exact Fx.ok (by assumption) (by decide)) rfl (by first | assumption | exact Fx.ref (by assumption) rfl) ?_
      refine wp_iload_n (pc := 56) dX7_flush_56 rfl ?_
      refine wp_iaload (pc := 57) dX7_flush_57 (by first | assumption | exact Fx.ok (by assumption) (by decide)) (in_I (by omega) (by rw [z41]; omega)) ?_
      rw [cy, hf.1 41 (by simp) (by decide), a2]
      first | refine wp_aload_n (pc := 58) dX7_flush_58 rfl ?_ | refine wp_aload_nN (pc := 58) dX7_flush_58 rfl ?_
      refine wp_getR (pc := 59) dX7_flush_59 fl_LevelStoreModel_16 (by first | assumption | exact Fx.ok (by assumption) (by decide)) rfl (by first | assumption | exact Fx.ref (by assumption) rfl) ?_
      refine wp_iload_n (pc := 62) dX7_flush_62 rfl ?_
      refine wp_iaload (pc := 63) dX7_flush_63 (by first | assumption | exact Fx.ok (by assumption) (by decide)) (in_I (by omega) (by rw [z42]; omega)) ?_
      rw [cy, hf.1 42 (by simp) (by decide), a3]
      refine cv_LevelStoreModel_169 (pc := 64) (m_source hX hs (by rw [fsrc_len, List.length_take]; omega) _ _ _) rfl dX7_flush_64 (by first | assumption | exact Fx.ok (by assumption) (by decide)) ⟨by decide, by decide, Nat.zero_le _, Nat.zero_le _⟩ (Nat.le_of_ble_eq_true rfl) (fun v h hp => ?_)
      obtain ⟨rfl, J2, rfl, hf2, hs2⟩ := hp
      refine wp_iinc (pc := 67) dX7_flush_67 rfl (by decide) rfl ?_
      refine wp_goto (pc := 70) (tgt := 37) dX7_flush_70 (by decide) ?_
      exact ih (t + 1) _ J2 _ (by omega) (by rw [hy]; exact nI_i1 t) (hf.tr1 hf2) (by rw [fsrc_succ (by omega)]; exact hs2) ⟨rfl, rfl, trivial⟩
theorem m_flush (hX : Fx n S R) (h : RM σ I SL) (h5 : σ.job = false → σ.FS 5 = []) (hl : σ.log.length ≤ 24) : wp 1 24 0 0 MX7_flush 0 [(0, .ref 39)] [] (n, S, R, I) (mP I n S R σ.flush) := by
  first | refine wp_aload_n (pc := 0) dX7_flush_0 rfl ?_ | refine wp_aload_nN (pc := 0) dX7_flush_0 rfl ?_
  refine wp_iconst (pc := 1) (v := 0) dX7_flush_1 (by decide) ?_
  refine wp_putI (pc := 2) dX7_flush_2 fl_LevelStoreModel_89 (by first | assumption | exact Fx.ok (by assumption) (by decide)) rfl rfl (Or.inl rfl) ?_
  have h1 := h.z
  have hk1 := kC.z (I := I)
  generalize ab_u2 I 39 0 0 = J at h1 hk1 ⊢
  first | refine wp_aload_n (pc := 5) dX7_flush_5 rfl ?_ | refine wp_aload_nN (pc := 5) dX7_flush_5 rfl ?_
  refine wp_getI (pc := 6) dX7_flush_6 fl_LevelStoreModel_143 (by first | assumption | exact Fx.ok (by assumption) (by decide)) rfl ?_
  refine wp_if_ne (pc := 9) (tgt := 19) dX7_flush_9 (by decide) (fun hc => ?_) (fun hc => ?_)
  · have hj := jb_t h1.jb.1 hc
    have hw : σ.flush = (cSTATE, σ) := by unfold St.flush; rw [if_pos (Or.inl hj)]
    refine wp_ldc (pc := 19) (v := -1000003) dX7_flush_19 cn_LevelStoreModel_136 ?_
    refine wp_ret (pc := 21) dX7_flush_21 rfl (by first | trivial | exact Or.inl rfl | exact Or.inr rfl | assumption) ?_
    exact mP.id h1 hw hk1
  · have hj := jb_f h1.jb.1 hc
    first | refine wp_aload_n (pc := 12) dX7_flush_12 rfl ?_ | refine wp_aload_nN (pc := 12) dX7_flush_12 rfl ?_
    refine wp_getI (pc := 13) dX7_flush_13 fl_LevelStoreModel_93 (by first | assumption | exact Fx.ok (by assumption) (by decide)) rfl ?_
    rw [h1.lg.1]
    refine wp_if_ne (pc := 16) (tgt := 22) dX7_flush_16 (by decide) (fun hc => ?_) (fun hc => ?_)
    · rw [tI_n (by omega)] at hc
      have hne : σ.log ≠ [] := fun q => by rw [q] at hc; exact hc rfl
      first | refine wp_aload_n (pc := 22) dX7_flush_22 rfl ?_ | refine wp_aload_nN (pc := 22) dX7_flush_22 rfl ?_
      refine wp_iconst (pc := 23) (v := -1) dX7_flush_23 (by decide) ?_
      refine cv_LevelStoreModel_162 (pc := 24) (m_begin hX (-1)) rfl dX7_flush_24 (by first | assumption | exact Fx.ok (by assumption) (by decide)) ⟨by decide, by decide, Nat.zero_le _, Nat.zero_le _⟩ (Nat.le_of_ble_eq_true rfl) (fun v h hp => ?_)
      obtain ⟨rfl, J1, rfl, bf, ⟨b20, b31, b21, b22, b23, b30, b32⟩, b57, b58⟩ := hp
      first | refine wp_aload_n (pc := 27) dX7_flush_27 rfl ?_ | refine wp_aload_nN (pc := 27) dX7_flush_27 rfl ?_
      first | refine wp_aload_n (pc := 28) dX7_flush_28 rfl ?_ | refine wp_aload_nN (pc := 28) dX7_flush_28 rfl ?_
      refine wp_getI (pc := 29) dX7_flush_29 fl_LevelStoreModel_93 (by first | assumption | exact Fx.ok (by assumption) (by decide)) rfl ?_
      rw [bf.2 1 (by simp), h1.lg.1]
      refine wp_putI (pc := 32) dX7_flush_32 fl_LevelStoreModel_166 (by first | assumption | exact Fx.ok (by assumption) (by decide)) rfl rfl (Or.inl rfl) ?_
      refine wp_iconst (pc := 35) (v := 0) dX7_flush_35 (by decide) ?_
      refine wp_istore_n (pc := 36) dX7_flush_36 (by decide) rfl ?_
      have hw : σ.flush = (nI σ.log.length, σ.beg 0 0 0 (σ.FS 0).length (σ.FS 0).length (fsrc σ.log)) := by unfold St.flush; rw [if_neg (by rw [hj]; rintro (q | q); cases q; exact hne q)]
      rw [hw]
      refine m_flush_loop hX hl (I0 := ab_u2 J1 39 29 (nI σ.log.length)) (log := σ.log) ?_ ?_ _ (fun J2 hf2 hs2 => ⟨rfl, J2, SL, rfl, h1.beg (h5 hj) ?_ ?_ ?_ ?_ ?_ ?_ ?_ ?_ hs2 ?_ ?_ ?_, ?_⟩) σ.log.length 0 _ _ _ (by omega) rfl fM.rf ?_ ⟨rfl, rfl, trivial⟩
      · rw [ab_u2_n _ _ (Or.inr (by decide)), bf.2 1 (by simp)]; exact h1.lg.1
      · exact h1.lg.2.keep ((ab_u2_r _ _ (by decide)).trans (bf.1 _ (by simp) (by decide))) ((ab_u2_r _ _ (by decide)).trans (bf.1 _ (by simp) (by decide))) ((ab_u2_r _ _ (by decide)).trans (bf.1 _ (by simp) (by decide)))
      · exact ⟨by rw [ab_u2_n _ _ (Or.inr (by decide))]; exact b22, fun j e q => by simp [fsrc] at q⟩
      · exact (bf.tr (C'' := [53, 54, 55, 56, 57, 58]) (K'' := [18, 20, 21, 22, 23, 29, 30, 31, 32]) (fM.uf (C := []) (K := [29]) (k := 29) (x := nI σ.log.length) (by simp)) (by simp) (by simp) (by simp) (by simp)).tr hf2 (fun _ q => q) (by simp) (fun _ q => q) (by simp)
      · rw [hf2.2 20 (by simp), ab_u2_n _ _ (Or.inr (by decide))]; exact b20
      · rw [hf2.2 31 (by simp), ab_u2_n _ _ (Or.inr (by decide))]; exact b31
      · rw [hf2.2 21 (by simp), ab_u2_n _ _ (Or.inr (by decide)), b21]; decide
      · rw [hf2.2 23 (by simp), ab_u2_n _ _ (Or.inr (by decide))]; exact b23
      · rw [hf2.2 30 (by simp), ab_u2_n _ _ (Or.inr (by decide))]; exact b30
      · rw [hf2.2 32 (by simp), ab_u2_n _ _ (Or.inr (by decide))]; exact b32
      · intro _; rw [hf2.2 29 (by simp), ab_u2_s, fsrc_len]
      · intro q; have := fsrc_len σ.log; rw [q] at this; exact hne (List.eq_nil_of_length_eq_zero this.symm)
      · intro k q; rw [hf2.1 58 (by simp) (by decide), ab_u2_r _ _ (by decide)]; exact b58 k q
      · intro f q; rw [hf2.1 57 (by simp) (by decide), ab_u2_r _ _ (by decide), b57 f q]
        refine Or.inr ⟨rfl, ?_⟩
        rintro (⟨z, -⟩ | z)
        · exact z rfl
        · rw [List.drop_of_length_le (by rw [List.length_take]; omega)] at z; exact absurd z List.not_mem_nil
      · exact hk1.tr ((bf.kC (by simp)).tr ((kC.u (by decide)).tr (hf2.kC (by simp))))
    · rw [tI_n (by omega)] at hc
      have hw : σ.flush = (cSTATE, σ) := by unfold St.flush; rw [if_pos (Or.inr (List.eq_nil_of_length_eq_zero (by omega)))]
      refine wp_ldc (pc := 19) (v := -1000003) dX7_flush_19 cn_LevelStoreModel_136 ?_
      refine wp_ret (pc := 21) dX7_flush_21 rfl (by first | trivial | exact Or.inl rfl | exact Or.inr rfl | assumption) ?_
      exact mP.id h1 hw hk1
end M8
