/-! THE REFERENCE: a merge begins -/
theorem sl_in {α : Type} {l : List α} {t lf lt : Nat} {x : α} (h : l[t]? = some x) (h1 : lf ≤ t) (h2 : t < lt) : (l.take (min (t + 1) lt)).drop lf = (l.take (min t lt)).drop lf ++ [x] := by
  have hl := (List.getElem?_eq_some_iff.mp h).1
  rw [show min (t + 1) lt = t + 1 by omega, show min t lt = t by omega, td_succ h, List.drop_append_of_le_length (by rw [List.length_take]; omega)]
theorem sl_out {α : Type} {l : List α} {t lf lt : Nat} (h : ¬ (lf ≤ t ∧ t < lt)) : (l.take (min (t + 1) lt)).drop lf = (l.take (min t lt)).drop lf := by
  by_cases h1 : lt ≤ t
  · rw [show min (t + 1) lt = lt by omega, show min t lt = lt by omega]
  · rw [List.drop_of_length_le (by rw [List.length_take]; omega), List.drop_of_length_le (by rw [List.length_take]; omega)]
theorem sl_pre {α : Type} (l : List α) (t lf lt : Nat) : ∃ r, (l.take lt).drop lf = (l.take (min t lt)).drop lf ++ r := by
  have e : l.take lt = l.take (min t lt) ++ (l.take lt).drop (min t lt) := by
    conv => lhs; rw [← List.take_append_drop (min t lt) (l.take lt)]
    rw [List.take_take, show min (min t lt) lt = min t lt by omega]
  refine ⟨((l.take lt).drop (min t lt)).drop (lf - (l.take (min t lt)).length), ?_⟩
  conv => lhs; rw [e]
  exact List.drop_append
theorem rg_pre (p : Nat → Bool) {t : Nat} (ht : t ≤ 330) : ∃ r, (List.range 330).filter p = (List.range t).filter p ++ r := by
  rw [show 330 = t + (330 - t) by omega, List.range_add, List.filter_append]
  exact ⟨_, rfl⟩
theorem rg_in (p : Nat → Bool) {t : Nat} (h : p t = true) : (List.range (t + 1)).filter p = (List.range t).filter p ++ [t] := by
  rw [List.range_succ, List.filter_append]; simp [h]
theorem rg_out (p : Nat → Bool) {t : Nat} (h : p t = false) : (List.range (t + 1)).filter p = (List.range t).filter p := by
  rw [List.range_succ, List.filter_append]; simp [h]
theorem cnt_pre {α : Type} {p : α → Bool} : ∀ {fs : List α}, (∀ (a b : Nat) (F G : α), a < b → fs[a]? = some F → fs[b]? = some G → p G = true → p F = true) → ∀ (a : Nat) (F : α), fs[a]? = some F → (p F = true ↔ a < fs.countP p)
  | [], _, a, F, h => by simp at h
  | G :: fs, hm, a, F, h => by
    have hm' : ∀ (a b : Nat) (F G : α), a < b → fs[a]? = some F → fs[b]? = some G → p G = true → p F = true := fun a b F G h1 h2 h3 => hm (a + 1) (b + 1) F G (by omega) (by simpa using h2) (by simpa using h3)
    by_cases hG : p G = true
    · rw [List.countP_cons_of_pos hG]
      cases a with
      | zero =>
        simp at h
        rw [← h]
        exact ⟨fun _ => by omega, fun _ => hG⟩
      | succ a =>
        have := cnt_pre hm' a F (by simpa using h)
        rw [this]
        omega
    · have hall : ∀ x ∈ fs, ¬ p x = true := fun x hx q => by
        obtain ⟨i, hi⟩ := List.getElem?_of_mem hx
        exact hG (hm 0 (i + 1) G x (by omega) rfl (by simpa using hi) q)
      have hz : fs.countP p = 0 := List.countP_eq_zero.mpr hall
      rw [List.countP_cons_of_neg hG, hz]
      cases a with
      | zero =>
        simp at h
        rw [← h]
        exact ⟨fun q => absurd q hG, fun q => by omega⟩
      | succ a =>
        exact ⟨fun q => absurd q (hall F (List.mem_of_getElem? (by simpa using h))), fun q => by omega⟩
theorem mem_sl {l : List Nat} (hn : l.Nodup) {a f tf tt : Nat} (h : l[a]? = some f) : f ∈ (l.take tt).drop tf ↔ tf ≤ a ∧ a < tt := by
  have hl := (List.getElem?_eq_some_iff.mp h).1
  constructor
  · intro q
    obtain ⟨i, hi⟩ := List.getElem?_of_mem q
    rw [List.getElem?_drop, List.getElem?_take] at hi
    split at hi
    · have : tf + i = a := (List.getElem?_inj (by have := (List.getElem?_eq_some_iff.mp hi).1; exact this) hn).mp (hi.trans h.symm)
      omega
    · cases hi
  · rintro ⟨h1, h2⟩
    refine List.mem_of_getElem? (i := a - tf) ?_
    rw [List.getElem?_drop, List.getElem?_take, show tf + (a - tf) = a by omega, if_pos h2]
    exact h
section M9
variable {σ : St} {n : Nat} {S : ab_SH} {R : ab_RR} {I : ab_II} {SL : Nat → List Nat}
theorem m_sf_loop (hX : Fx n S R) {f m : Nat} (hf : f < 330) {I0 : ab_II} (hm : I0 48 f = nI m) (hm2 : m ≤ 24) (hml : (slE I0 f).length = m) (es : List En) (hlen : es.length + m ≤ 1200) (post : ab_Po) (hpost : ∀ J, fM I0 J [54, 55, 56] [22] → mSr J (insA es (slE I0 f)) → post none (n, S, R, J)) :
    ∀ (d j : Nat) (z : Int32) (J : ab_II) (L : List (Nat × Value)), m = j + d → z = nI (30 * f + j) → fM I0 J [54, 55, 56] [22] → mSr J (insA es ((slE I0 f).take j)) → ab_sub L [(0, .ref 39), (1, .int (nI f)), (2, .int z)] → wp 1 24 0 0 MX7_sourceFile 12 L [] (n, S, R, J) post := by
  have z48 : (S 48).2 = 330 := hX.len (by decide)
  have z49 : (S 49).2 = 9900 := hX.len (by decide)
  have z50 : (S 50).2 = 9900 := hX.len (by decide)
  have z51 : (S 51).2 = 9900 := hX.len (by decide)
  have ef : (nI f).toInt = f := tI_n (by omega)
  have cf : (nI f).toNatClampNeg = f := nI_c (by omega)
  have elim : nI (30 * f) + nI m = nI (30 * f + m) := nI_add _ _
  have elimI : (nI (30 * f + m)).toInt = ((30 * f + m : Nat) : Int) := tI_n (by omega)
  intro d
  induction d with
  | zero =>
    intro j z J L hj hz hfm hs hL0
    refine wp_loc hL0 ?_
    have ez : z.toInt = ((30 * f + j : Nat) : Int) := by rw [hz, tI_n (by omega)]
    refine wp_iload_n (pc := 12) dX7_sourceFile_12 rfl ?_
    refine wp_bipush (pc := 13) (v := 30) dX7_sourceFile_13 (by decide) ?_
    refine wp_iload_n (pc := 15) dX7_sourceFile_15 rfl ?_
    refine wp_imul (pc := 16) dX7_sourceFile_16 ?_
    rw [i30]
    first | refine wp_aload_n (pc := 17) dX7_sourceFile_17 rfl ?_ | refine wp_aload_nN (pc := 17) dX7_sourceFile_17 rfl ?_
    refine wp_getR (pc := 18) dX7_sourceFile_18 fl_LevelStoreModel_34 (by first | assumption | exact Fx.ok (by assumption) (by decide)) rfl (by first | assumption | exact Fx.ref (by assumption) rfl) ?_
    refine wp_iload_n (pc := 21) dX7_sourceFile_21 rfl ?_
    refine wp_iaload (pc := 22) dX7_sourceFile_22 (by first | assumption | exact Fx.ok (by assumption) (by decide)) (in_I (by omega) (by rw [z48]; omega)) ?_
    rw [cf, hfm.1 48 (by simp) (by decide), hm]
    refine wp_iadd (pc := 23) dX7_sourceFile_23 ?_
    rw [elim]
    refine wp_icmp_ge (pc := 24) (tgt := 55) dX7_sourceFile_24 (by decide) (fun hc => ?_) (fun hc => ?_)
    · skip
      refine wp_retv (pc := 55) dX7_sourceFile_55 rfl ?_
      rw [List.take_of_length_le (by omega)] at hs; exact hpost J hfm hs
    · rw [elimI] at hc; omega
  | succ d ih =>
    intro j z J L hj hz hfm hs hL0
    refine wp_loc hL0 ?_
    have ez : z.toInt = ((30 * f + j : Nat) : Int) := by rw [hz, tI_n (by omega)]
    have cz : z.toNatClampNeg = 30 * f + j := by rw [tI_c]; omega
    have eg := slE_get (I := I0) (f := f) (m := m) (j := j) hm hm2 (by omega)
    refine wp_iload_n (pc := 12) dX7_sourceFile_12 rfl ?_
    refine wp_bipush (pc := 13) (v := 30) dX7_sourceFile_13 (by decide) ?_
    refine wp_iload_n (pc := 15) dX7_sourceFile_15 rfl ?_
    refine wp_imul (pc := 16) dX7_sourceFile_16 ?_
    rw [i30]
    first | refine wp_aload_n (pc := 17) dX7_sourceFile_17 rfl ?_ | refine wp_aload_nN (pc := 17) dX7_sourceFile_17 rfl ?_
    refine wp_getR (pc := 18) dX7_sourceFile_18 fl_LevelStoreModel_34 (by first | assumption | exact Fx.ok (by assumption) (by decide)) rfl (by first | assumption | exact Fx.ref (by assumption) rfl) ?_
    refine wp_iload_n (pc := 21) dX7_sourceFile_21 rfl ?_
    refine wp_iaload (pc := 22) dX7_sourceFile_22 (by first | assumption | exact Fx.ok (by assumption) (by decide)) (in_I (by omega) (by rw [z48]; omega)) ?_
    rw [cf, hfm.1 48 (by simp) (by decide), hm]
    refine wp_iadd (pc := 23) dX7_sourceFile_23 ?_
    rw [elim]
    refine wp_icmp_ge (pc := 24) (tgt := 55) dX7_sourceFile_24 (by decide) (fun hc => ?_) (fun hc => ?_)
    · rw [elimI] at hc; omega
    · skip
      first | refine wp_aload_n (pc := 27) dX7_sourceFile_27 rfl ?_ | refine wp_aload_nN (pc := 27) dX7_sourceFile_27 rfl ?_
      first | refine wp_aload_n (pc := 28) dX7_sourceFile_28 rfl ?_ | refine wp_aload_nN (pc := 28) dX7_sourceFile_28 rfl ?_
      refine wp_getR (pc := 29) dX7_sourceFile_29 fl_LevelStoreModel_37 (by first | assumption | exact Fx.ok (by assumption) (by decide)) rfl (by first | assumption | exact Fx.ref (by assumption) rfl) ?_
      refine wp_iload_n (pc := 32) dX7_sourceFile_32 rfl ?_
      refine wp_iaload (pc := 33) dX7_sourceFile_33 (by first | assumption | exact Fx.ok (by assumption) (by decide)) (in_I (by omega) (by rw [z49]; omega)) ?_
      rw [cz, hfm.1 49 (by simp) (by decide)]
      first | refine wp_aload_n (pc := 34) dX7_sourceFile_34 rfl ?_ | refine wp_aload_nN (pc := 34) dX7_sourceFile_34 rfl ?_
      refine wp_getR (pc := 35) dX7_sourceFile_35 fl_LevelStoreModel_40 (by first | assumption | exact Fx.ok (by assumption) (by decide)) rfl (by first | assumption | exact Fx.ref (by assumption) rfl) ?_
      refine wp_iload_n (pc := 38) dX7_sourceFile_38 rfl ?_
      refine wp_iaload (pc := 39) dX7_sourceFile_39 (by first | assumption | exact Fx.ok (by assumption) (by decide)) (in_I (by omega) (by rw [z50]; omega)) ?_
      rw [cz, hfm.1 50 (by simp) (by decide)]
      first | refine wp_aload_n (pc := 40) dX7_sourceFile_40 rfl ?_ | refine wp_aload_nN (pc := 40) dX7_sourceFile_40 rfl ?_
      refine wp_getR (pc := 41) dX7_sourceFile_41 fl_LevelStoreModel_43 (by first | assumption | exact Fx.ok (by assumption) (by decide)) rfl (by first | assumption | exact Fx.ref (by assumption) rfl) ?_
      refine wp_iload_n (pc := 44) dX7_sourceFile_44 rfl ?_
      refine wp_iaload (pc := 45) dX7_sourceFile_45 (by first | assumption | exact Fx.ok (by assumption) (by decide)) (in_I (by omega) (by rw [z51]; omega)) ?_
      rw [cz, hfm.1 51 (by simp) (by decide)]
      refine cv_LevelStoreModel_169 (pc := 46) (m_source hX hs (by rw [insA_len, List.length_take]; omega) _ _ _) rfl dX7_sourceFile_46 (by first | assumption | exact Fx.ok (by assumption) (by decide)) ⟨by decide, by decide, Nat.zero_le _, Nat.zero_le _⟩ (Nat.le_of_ble_eq_true rfl) (fun v h hp => ?_)
      obtain ⟨rfl, J2, rfl, hf2, hs2⟩ := hp
      refine wp_iinc (pc := 49) dX7_sourceFile_49 rfl (by decide) rfl ?_
      refine wp_goto (pc := 52) (tgt := 12) dX7_sourceFile_52 (by decide) ?_
      exact ih (j + 1) _ J2 _ (by omega) (by rw [hz, show 30 * f + (j + 1) = 30 * f + j + 1 by omega]; exact nI_i1 _) (hfm.tr1 hf2) (by rw [td_succ eg, insA_app]; exact hs2) ⟨rfl, rfl, rfl, trivial⟩
theorem m_sourceFile (hX : Fx n S R) {f : Nat} (hf : f < 330) {F : FA} (hs : slOK I f F) (es : List En) (hsr : mSr I es) (hlen : es.length + F.es.length ≤ 1200) : wp 1 24 0 0 MX7_sourceFile 0 [(0, .ref 39), (1, .int (nI f))] [] (n, S, R, I) (fun v hh => v = none ∧ ∃ J, hh = (n, S, R, J) ∧ fM I J [54, 55, 56, 57] [22] ∧ mSr J (insA es F.es) ∧ ∀ g, J 57 g = if g = f then 1 else I 57 g) := by
  have z57 : (S 57).2 = 330 := hX.len (by decide)
  have ef : (nI f).toInt = f := tI_n (by omega)
  have cf : (nI f).toNatClampNeg = f := nI_c (by omega)
  have eE : slE (ab_u2 I 57 f 1) f = F.es := slOK.eE (hs.keep (fun j _ _ => ab_u2_r _ _ (by omega)))
  first | refine wp_aload_n (pc := 0) dX7_sourceFile_0 rfl ?_ | refine wp_aload_nN (pc := 0) dX7_sourceFile_0 rfl ?_
  refine wp_getR (pc := 1) dX7_sourceFile_1 fl_LevelStoreModel_61 (by first | assumption | exact Fx.ok (by assumption) (by decide)) rfl (by first | assumption | exact Fx.ref (by assumption) rfl) ?_
  refine wp_iload_n (pc := 4) dX7_sourceFile_4 rfl ?_
  refine wp_iconst (pc := 5) (v := 1) dX7_sourceFile_5 (by decide) ?_
  refine wp_bastore (pc := 6) dX7_sourceFile_6 (by first | assumption | exact Fx.ok (by assumption) (by decide)) (in_I (by omega) (by rw [z57]; omega)) (by first | exact Or.inl rfl | exact Or.inr rfl | assumption) ?_
  rw [cf]
  refine wp_bipush (pc := 7) (v := 30) dX7_sourceFile_7 (by decide) ?_
  refine wp_iload_n (pc := 9) dX7_sourceFile_9 rfl ?_
  refine wp_imul (pc := 10) dX7_sourceFile_10 ?_
  rw [i30]
  refine wp_istore_n (pc := 11) dX7_sourceFile_11 (by decide) rfl ?_
  refine m_sf_loop hX hf (I0 := ab_u2 I 57 f 1) (m := F.es.length) (by rw [ab_u2_r _ _ (by decide)]; exact hs.2.2.2.1) hs.2.2.2.2.1 (by rw [eE]) es hlen _ (fun J hf2 hs2 => ⟨rfl, J, rfl, ?_, ?_, fun g => ?_⟩) F.es.length 0 _ _ _ (by omega) rfl fM.rf (hsr.keep (ab_u2_n _ _ (Or.inl (by decide))) (ab_u2_r _ _ (by decide)) (ab_u2_r _ _ (by decide)) (ab_u2_r _ _ (by decide))) ⟨rfl, rfl, rfl, trivial⟩
  · exact (fM.ua (C := [54, 55, 56, 57]) (K := [22]) (by simp) (by decide)).tr hf2 (fun _ q => q) (by simp) (fun _ q => q) (by simp)
  · rw [eE] at hs2; exact hs2
  · rw [hf2.1 57 (by simp) (by decide)]
    by_cases q : g = f
    · rw [q, ab_u2_s, if_pos rfl]
    · rw [ab_u2_n _ _ (Or.inr q), if_neg q]
/-- the first half: the files of the level itself -/
theorem m_mg_A (hX : Fx n S R) {I0 : ab_II} (hSl : mSl σ I0 SL) {k : Nat} (hk : k < 3) (i : Int32) (hls : lsOK I0 (SL k)) (hE : ∀ F ∈ σ.FS k, F.es ≠ []) {lf lt : Nat} (hsel : ∀ t, t < (SL k).length → ((k = 0 ∨ i.toInt = t) ↔ (lf ≤ t ∧ t < lt))) (hlt : lt ≤ (SL k).length) (hlen : ((slice (σ.FS k) lf lt).flatMap FA.es).length ≤ 750) (post : ab_Po)
    (hpost : ∀ J, fM I0 J [54, 55, 56, 57] [22] → mSr J (insA [] ((slice (σ.FS k) lf lt).flatMap FA.es)) → (∀ f, f < 330 → J 57 f = if f ∈ ((SL k).take lt).drop lf then 1 else 0) → ∀ L, ab_sub L [(0, .ref 39), (1, .int (nI k)), (2, .int i), (3, .int (mlo (slice (σ.FS k) lf lt))), (4, .int (mhi (slice (σ.FS k) lf lt)))] → wp 2 46 0 0 MX7_merge 181 L [] (n, S, R, J) post) :
    ∀ (d t : Nat) (y : Int32) (J : ab_II) (L : List (Nat × Value)), (SL k).length = t + d → y = nI t → fM I0 J [54, 55, 56, 57] [22] → mSr J (insA [] ((((σ.FS k).take (min t lt)).drop lf).flatMap FA.es)) → (∀ f, f < 330 → J 57 f = if f ∈ ((SL k).take (min t lt)).drop lf then 1 else 0) → ab_sub L [(0, .ref 39), (1, .int (nI k)), (2, .int i), (3, .int (mlo (((σ.FS k).take (min t lt)).drop lf))), (4, .int (mhi (((σ.FS k).take (min t lt)).drop lf))), (5, .int y)] → wp 2 46 0 0 MX7_merge 80 L [] (n, S, R, J) post := by
  have z53 : (S 53).2 = 330 := hX.len (by decide)
  have hnd := (hSl.1 k (Or.inl (by omega))).2.1
  have hlenF := (hSl.1 k (Or.inl (by omega))).1
  have h330 : (SL k).length ≤ 330 := by
    have := List.Nodup.length_le_of_subset (l₂ := List.range 330) hnd (fun f q => List.mem_range.mpr (hSl.mem (Or.inl (by omega)) q).1)
    rw [List.length_range] at this
    exact this
  have e18 : (I0 39 18).toInt = (SL k).length := by rw [hls.1, tI_n (by omega)]
  have ek : (nI k).toInt = k := tI_n (by omega)
  intro d
  induction d with
  | zero =>
    intro t y J L ht hy hf hs hb hL0
    have em : min t lt = lt := by omega
    rw [em] at hs hb hL0
    refine wp_loc hL0 ?_
    have ey : y.toInt = t := by rw [hy, tI_n (by omega)]
    refine wp_iload (pc := 80) dX7_merge_80 rfl ?_
    first | refine wp_aload_n (pc := 82) dX7_merge_82 rfl ?_ | refine wp_aload_nN (pc := 82) dX7_merge_82 rfl ?_
    refine wp_getI (pc := 83) dX7_merge_83 fl_LevelStoreModel_137 (by first | assumption | exact Fx.ok (by assumption) (by decide)) rfl ?_
    rw [hf.2 18 (by simp)]
    refine wp_icmp_ge (pc := 86) (tgt := 181) dX7_merge_86 (by decide) (fun hc => ?_) (fun hc => ?_)
    · skip
      exact hpost J hf hs hb _ ⟨rfl, rfl, rfl, rfl, rfl, trivial⟩
    · omega
  | succ d ih =>
    intro t y J L ht hy hf hs hb hL0
    refine wp_loc hL0 ?_
    have ey : y.toInt = t := by rw [hy, tI_n (by omega)]
    have cy : y.toNatClampNeg = t := by rw [tI_c]; omega
    obtain ⟨g, hg⟩ : ∃ g, (SL k)[t]? = some g := ⟨_, List.getElem?_eq_getElem (by omega)⟩
    obtain ⟨F, hF⟩ : ∃ F, (σ.FS k)[t]? = some F := ⟨_, List.getElem?_eq_getElem (by omega)⟩
    obtain ⟨hg1, -, hsl0⟩ := (hSl.1 k (Or.inl (by omega))).2.2 t g F hg hF
    have hsl : slOK J g F := hsl0.keep (fun j h1 h2 => hf.1 j (by simp; omega) (by omega))
    have hne := hE F (List.mem_of_getElem? hF)
    have hv : J 53 t = nI g := by rw [hf.1 53 (by simp) (by decide)]; exact hls.2 t g hg
    have hsl2 := hsel t (by omega)
    have nxt : ∀ (J : ab_II), fM I0 J [54, 55, 56, 57] [22] → mSr J (insA [] ((((σ.FS k).take (min (t + 1) lt)).drop lf).flatMap FA.es)) → (∀ f, f < 330 → J 57 f = if f ∈ ((SL k).take (min (t + 1) lt)).drop lf then 1 else 0) → ∀ L, ab_sub L [(0, .ref 39), (1, .int (nI k)), (2, .int i), (3, .int (mlo (((σ.FS k).take (min (t + 1) lt)).drop lf))), (4, .int (mhi (((σ.FS k).take (min (t + 1) lt)).drop lf))), (5, .int y)] → wp 2 46 0 0 MX7_merge 175 L [] (n, S, R, J) post := by
      intro J hf hs hb L hL
      refine wp_loc hL ?_
      refine wp_iinc (pc := 175) dX7_merge_175 rfl (by decide) rfl ?_
      refine wp_goto (pc := 178) (tgt := 80) dX7_merge_178 (by decide) ?_
      exact ih (t + 1) _ J _ (by omega) (by rw [hy]; exact nI_i1 t) hf hs hb ⟨rfl, rfl, rfl, rfl, rfl, rfl, trivial⟩
    by_cases hin : lf ≤ t ∧ t < lt
    · have eF := sl_in hF hin.1 hin.2
      have eS := sl_in hg hin.1 hin.2
      obtain ⟨r, hr⟩ := sl_pre (σ.FS k) (t + 1) lf lt
      have hbud : ((((σ.FS k).take (min t lt)).drop lf).flatMap FA.es).length + F.es.length ≤ 750 := by
        have : ((slice (σ.FS k) lf lt).flatMap FA.es).length = _ := congrArg (fun l => (List.flatMap FA.es l).length) hr
        simp only [eF, List.flatMap_append, List.length_append, List.flatMap_cons, List.flatMap_nil, List.append_nil] at this
        omega
      have elo : mlo (((σ.FS k).take (min (t + 1) lt)).drop lf) = mnF (mlo (((σ.FS k).take (min t lt)).drop lf)) F := by rw [eF]; unfold mlo; rw [List.foldl_append]; rfl
      have ehi : mhi (((σ.FS k).take (min (t + 1) lt)).drop lf) = mxF (mhi (((σ.FS k).take (min t lt)).drop lf)) F := by rw [eF]; unfold mhi; rw [List.foldl_append]; rfl
      generalize mlo (((σ.FS k).take (min t lt)).drop lf) = low at *
      generalize mhi (((σ.FS k).take (min t lt)).drop lf) = high at *
      have s164 : ∀ L, ab_sub L [(0, .ref 39), (1, .int (nI k)), (2, .int i), (3, .int (mnF low F)), (4, .int (mxF high F)), (5, .int y)] → wp 2 46 0 0 MX7_merge 164 L [] (n, S, R, J) post := by
        intro L hL
        refine wp_loc hL ?_
        first | refine wp_aload_n (pc := 164) dX7_merge_164 rfl ?_ | refine wp_aload_nN (pc := 164) dX7_merge_164 rfl ?_
        first | refine wp_aload_n (pc := 165) dX7_merge_165 rfl ?_ | refine wp_aload_nN (pc := 165) dX7_merge_165 rfl ?_
        refine wp_getR (pc := 166) dX7_merge_166 fl_LevelStoreModel_49 (by first | assumption | exact Fx.ok (by assumption) (by decide)) rfl (by first | assumption | exact Fx.ref (by assumption) rfl) ?_
        refine wp_iload (pc := 169) dX7_merge_169 rfl ?_
        refine wp_iaload (pc := 171) dX7_merge_171 (by first | assumption | exact Fx.ok (by assumption) (by decide)) (in_I (by omega) (by rw [z53]; omega)) ?_
        rw [cy, hv]
        refine cv_LevelStoreModel_183 (pc := 172) (m_sourceFile hX hg1 hsl _ hs (by rw [insA_len, List.length_nil]; omega)) rfl dX7_merge_172 (by first | assumption | exact Fx.ok (by assumption) (by decide)) ⟨by decide, by decide, Nat.zero_le _, Nat.zero_le _⟩ (Nat.le_of_ble_eq_true rfl) (fun v h hp => ?_)
        obtain ⟨rfl, J2, rfl, hf2, hs2, hb2⟩ := hp
        refine nxt J2 (hf.tr1 hf2) ?_ (fun f q => ?_) _ ⟨rfl, rfl, rfl, by rw [elo]; rfl, by rw [ehi]; rfl, rfl, trivial⟩
        · rw [eF, List.flatMap_append, insA_app]; simpa using hs2
        · rw [hb2 f, eS]
          by_cases q2 : f = g
          · rw [if_pos q2, if_pos (by rw [q2]; simp)]
          · rw [if_neg q2, hb f q]
            by_cases q3 : f ∈ ((SL k).take (min t lt)).drop lf
            · rw [if_pos q3, if_pos (List.mem_append_left _ q3)]
            · rw [if_neg q3, if_neg (fun q4 => by rcases List.mem_append.mp q4 with q4 | q4; exact q3 q4; exact q2 (List.mem_singleton.mp q4))]
      have s130 : ∀ L, ab_sub L [(0, .ref 39), (1, .int (nI k)), (2, .int i), (3, .int (mnF low F)), (4, .int high), (5, .int y)] → wp 2 46 0 0 MX7_merge 130 L [] (n, S, R, J) post := by
        intro L hL
        refine wp_loc hL ?_
        first | refine wp_aload_n (pc := 130) dX7_merge_130 rfl ?_ | refine wp_aload_nN (pc := 130) dX7_merge_130 rfl ?_
        first | refine wp_aload_n (pc := 131) dX7_merge_131 rfl ?_ | refine wp_aload_nN (pc := 131) dX7_merge_131 rfl ?_
        refine wp_getR (pc := 132) dX7_merge_132 fl_LevelStoreModel_49 (by first | assumption | exact Fx.ok (by assumption) (by decide)) rfl (by first | assumption | exact Fx.ref (by assumption) rfl) ?_
        refine wp_iload (pc := 135) dX7_merge_135 rfl ?_
        refine wp_iaload (pc := 137) dX7_merge_137 (by first | assumption | exact Fx.ok (by assumption) (by decide)) (in_I (by omega) (by rw [z53]; omega)) ?_
        rw [cy, hv]
        refine cv_LevelStoreModel_180 (pc := 138) (m_greatest hX hg1 hsl hne) rfl dX7_merge_138 (by first | assumption | exact Fx.ok (by assumption) (by decide)) ⟨by decide, by decide, Nat.zero_le _, Nat.zero_le _⟩ (Nat.le_of_ble_eq_true rfl) (fun v h hp => ?_)
        obtain ⟨rfl, rfl⟩ := hp
        refine wp_iload (pc := 141) dX7_merge_141 rfl ?_
        refine wp_icmp_le (pc := 143) (tgt := 160) dX7_merge_143 (by decide) (fun hc => ?_) (fun hc => ?_)
        · have e : mxF high F = high := by unfold mxF; rw [if_neg (fun q => by have := Int32.lt_iff_toInt_lt.mp q; omega)]
          refine wp_iload (pc := 160) dX7_merge_160 rfl ?_
          refine wp_istore (pc := 162) dX7_merge_162 (by decide) rfl ?_
          exact s164 _ ⟨rfl, rfl, rfl, rfl, by rw [e]; rfl, rfl, trivial⟩
        · have e : mxF high F = gk F.es := by unfold mxF; rw [if_pos (Int32.lt_iff_toInt_lt.mpr hc)]
          first | refine wp_aload_n (pc := 146) dX7_merge_146 rfl ?_ | refine wp_aload_nN (pc := 146) dX7_merge_146 rfl ?_
          first | refine wp_aload_n (pc := 147) dX7_merge_147 rfl ?_ | refine wp_aload_nN (pc := 147) dX7_merge_147 rfl ?_
          refine wp_getR (pc := 148) dX7_merge_148 fl_LevelStoreModel_49 (by first | assumption | exact Fx.ok (by assumption) (by decide)) rfl (by first | assumption | exact Fx.ref (by assumption) rfl) ?_
          refine wp_iload (pc := 151) dX7_merge_151 rfl ?_
          refine wp_iaload (pc := 153) dX7_merge_153 (by first | assumption | exact Fx.ok (by assumption) (by decide)) (in_I (by omega) (by rw [z53]; omega)) ?_
          rw [cy, hv]
          refine cv_LevelStoreModel_180 (pc := 154) (m_greatest hX hg1 hsl hne) rfl dX7_merge_154 (by first | assumption | exact Fx.ok (by assumption) (by decide)) ⟨by decide, by decide, Nat.zero_le _, Nat.zero_le _⟩ (Nat.le_of_ble_eq_true rfl) (fun v h hp => ?_)
          obtain ⟨rfl, rfl⟩ := hp
          refine wp_goto (pc := 157) (tgt := 162) dX7_merge_157 (by decide) ?_
          refine wp_istore (pc := 162) dX7_merge_162 (by decide) rfl ?_
          exact s164 _ ⟨rfl, rfl, rfl, rfl, by rw [e]; rfl, rfl, trivial⟩
      have s99 : ∀ L, ab_sub L [(0, .ref 39), (1, .int (nI k)), (2, .int i), (3, .int low), (4, .int high), (5, .int y)] → wp 2 46 0 0 MX7_merge 99 L [] (n, S, R, J) post := by
        intro L hL
        refine wp_loc hL ?_
        first | refine wp_aload_n (pc := 99) dX7_merge_99 rfl ?_ | refine wp_aload_nN (pc := 99) dX7_merge_99 rfl ?_
        first | refine wp_aload_n (pc := 100) dX7_merge_100 rfl ?_ | refine wp_aload_nN (pc := 100) dX7_merge_100 rfl ?_
        refine wp_getR (pc := 101) dX7_merge_101 fl_LevelStoreModel_49 (by first | assumption | exact Fx.ok (by assumption) (by decide)) rfl (by first | assumption | exact Fx.ref (by assumption) rfl) ?_
        refine wp_iload (pc := 104) dX7_merge_104 rfl ?_
        refine wp_iaload (pc := 106) dX7_merge_106 (by first | assumption | exact Fx.ok (by assumption) (by decide)) (in_I (by omega) (by rw [z53]; omega)) ?_
        rw [cy, hv]
        refine cv_LevelStoreModel_176 (pc := 107) (m_least hX hg1 hsl hne) rfl dX7_merge_107 (by first | assumption | exact Fx.ok (by assumption) (by decide)) ⟨by decide, by decide, Nat.zero_le _, Nat.zero_le _⟩ (Nat.le_of_ble_eq_true rfl) (fun v h hp => ?_)
        obtain ⟨rfl, rfl⟩ := hp
        refine wp_iload_n (pc := 110) dX7_merge_110 rfl ?_
        refine wp_icmp_ge (pc := 111) (tgt := 128) dX7_merge_111 (by decide) (fun hc => ?_) (fun hc => ?_)
        · have e : mnF low F = low := by unfold mnF; rw [if_neg (fun q => by have := Int32.lt_iff_toInt_lt.mp q; omega)]
          refine wp_iload_n (pc := 128) dX7_merge_128 rfl ?_
          refine wp_istore_n (pc := 129) dX7_merge_129 (by decide) rfl ?_
          exact s130 _ ⟨rfl, rfl, rfl, by rw [e]; rfl, rfl, rfl, trivial⟩
        · have e : mnF low F = lk F.es := by unfold mnF; rw [if_pos (Int32.lt_iff_toInt_lt.mpr hc)]
          first | refine wp_aload_n (pc := 114) dX7_merge_114 rfl ?_ | refine wp_aload_nN (pc := 114) dX7_merge_114 rfl ?_
          first | refine wp_aload_n (pc := 115) dX7_merge_115 rfl ?_ | refine wp_aload_nN (pc := 115) dX7_merge_115 rfl ?_
          refine wp_getR (pc := 116) dX7_merge_116 fl_LevelStoreModel_49 (by first | assumption | exact Fx.ok (by assumption) (by decide)) rfl (by first | assumption | exact Fx.ref (by assumption) rfl) ?_
          refine wp_iload (pc := 119) dX7_merge_119 rfl ?_
          refine wp_iaload (pc := 121) dX7_merge_121 (by first | assumption | exact Fx.ok (by assumption) (by decide)) (in_I (by omega) (by rw [z53]; omega)) ?_
          rw [cy, hv]
          refine cv_LevelStoreModel_176 (pc := 122) (m_least hX hg1 hsl hne) rfl dX7_merge_122 (by first | assumption | exact Fx.ok (by assumption) (by decide)) ⟨by decide, by decide, Nat.zero_le _, Nat.zero_le _⟩ (Nat.le_of_ble_eq_true rfl) (fun v h hp => ?_)
          obtain ⟨rfl, rfl⟩ := hp
          refine wp_goto (pc := 125) (tgt := 129) dX7_merge_125 (by decide) ?_
          refine wp_istore_n (pc := 129) dX7_merge_129 (by decide) rfl ?_
          exact s130 _ ⟨rfl, rfl, rfl, by rw [e]; rfl, rfl, rfl, trivial⟩
      have hor := hsl2.mpr hin
      refine wp_iload (pc := 80) dX7_merge_80 rfl ?_
      first | refine wp_aload_n (pc := 82) dX7_merge_82 rfl ?_ | refine wp_aload_nN (pc := 82) dX7_merge_82 rfl ?_
      refine wp_getI (pc := 83) dX7_merge_83 fl_LevelStoreModel_137 (by first | assumption | exact Fx.ok (by assumption) (by decide)) rfl ?_
      rw [hf.2 18 (by simp)]
      refine wp_icmp_ge (pc := 86) (tgt := 181) dX7_merge_86 (by decide) (fun hc => ?_) (fun hc => ?_)
      · omega
      · skip
        refine wp_iload_n (pc := 89) dX7_merge_89 rfl ?_
        refine wp_if_eq (pc := 90) (tgt := 99) dX7_merge_90 (by decide) (fun hc => ?_) (fun hc => ?_)
        · skip
          exact s99 _ ⟨rfl, rfl, rfl, rfl, rfl, rfl, trivial⟩
        · skip
          refine wp_iload (pc := 93) dX7_merge_93 rfl ?_
          refine wp_iload_n (pc := 95) dX7_merge_95 rfl ?_
          refine wp_icmp_ne (pc := 96) (tgt := 175) dX7_merge_96 (by decide) (fun hc => ?_) (fun hc => ?_)
          · omega
          · skip
            exact s99 _ ⟨rfl, rfl, rfl, rfl, rfl, rfl, trivial⟩
    · have eF := sl_out (l := σ.FS k) hin
      have eS := sl_out (l := SL k) hin
      have hor : ¬ (k = 0 ∨ i.toInt = t) := fun q => hin (hsl2.mp q)
      refine wp_iload (pc := 80) dX7_merge_80 rfl ?_
      first | refine wp_aload_n (pc := 82) dX7_merge_82 rfl ?_ | refine wp_aload_nN (pc := 82) dX7_merge_82 rfl ?_
      refine wp_getI (pc := 83) dX7_merge_83 fl_LevelStoreModel_137 (by first | assumption | exact Fx.ok (by assumption) (by decide)) rfl ?_
      rw [hf.2 18 (by simp)]
      refine wp_icmp_ge (pc := 86) (tgt := 181) dX7_merge_86 (by decide) (fun hc => ?_) (fun hc => ?_)
      · omega
      · skip
        refine wp_iload_n (pc := 89) dX7_merge_89 rfl ?_
        refine wp_if_eq (pc := 90) (tgt := 99) dX7_merge_90 (by decide) (fun hc => ?_) (fun hc => ?_)
        · omega
        · skip
          refine wp_iload (pc := 93) dX7_merge_93 rfl ?_
          refine wp_iload_n (pc := 95) dX7_merge_95 rfl ?_
          refine wp_icmp_ne (pc := 96) (tgt := 175) dX7_merge_96 (by decide) (fun hc => ?_) (fun hc => ?_)
          · skip
            exact nxt J hf (by rw [eF]; exact hs) (by rw [eS]; exact hb) _ (by rw [eF]; exact ⟨rfl, rfl, rfl, rfl, rfl, rfl, trivial⟩)
          · omega
/-- the second half: the files of the next level -/
theorem m_mg_B (hX : Fx n S R) {I0 : ab_II} (hSl : mSl σ I0 SL) {k : Nat} (hk : k < 3) (i low high : Int32) (hE : ∀ F ∈ σ.FS (k + 1), F.es ≠ []) (D C : List Nat) (hD : ∀ f ∈ D, f ∈ SL (k + 1)) (hsel : ∀ (a f : Nat) (F : FA), (SL (k + 1))[a]? = some f → (σ.FS (k + 1))[a]? = some F → (f ∈ D ↔ ((lk F.es).toInt ≤ high.toInt ∧ low.toInt ≤ (gk F.es).toInt))) (es : List En) (hlen : es.length + (((List.range 330).filter (fun f => decide (f ∈ D))).flatMap (slE I0)).length ≤ 1200) (post : ab_Po)
    (hpost : ∀ (J : ab_II) (x : Int32), fM I0 J [54, 55, 56, 57] [22] → mSr J (insA es (((List.range 330).filter (fun f => decide (f ∈ D))).flatMap (slE I0))) → (∀ f, f < 330 → J 57 f = if f ∈ C ∨ f ∈ D then 1 else 0) → x = J 39 22 → post (some (.int x)) (n, S, R, J)) :
    ∀ (d t : Nat) (y : Int32) (J : ab_II) (L : List (Nat × Value)), 330 = t + d → y = nI t → fM I0 J [54, 55, 56, 57] [22] → mSr J (insA es (((List.range t).filter (fun f => decide (f ∈ D))).flatMap (slE I0))) → (∀ f, f < 330 → J 57 f = if f ∈ C ∨ (f ∈ D ∧ f < t) then 1 else 0) → ab_sub L [(0, .ref 39), (1, .int (nI k)), (2, .int i), (3, .int low), (4, .int high), (5, .int y)] → wp 2 46 0 0 MX7_merge 184 L [] (n, S, R, J) post := by
  have z44 : (S 44).2 = 330 := hX.len (by decide)
  have t330 : (330 : Int32).toInt = 330 := by decide +kernel
  have elv : lvc (k + 1) = nI (k + 1) := by unfold lvc; rw [if_neg (by omega)]
  have ek : nI k + 1 = nI (k + 1) := nI_1 k
  intro d
  induction d with
  | zero =>
    intro t y J L ht hy hf hs hb hL0
    refine wp_loc hL0 ?_
    have ey : y.toInt = t := by rw [hy, tI_n (by omega)]
    have et : t = 330 := by omega
    subst et
    refine wp_iload (pc := 184) dX7_merge_184 rfl ?_
    refine wp_sipush (pc := 186) (v := 330) dX7_merge_186 (by decide) ?_
    refine wp_icmp_ge (pc := 189) (tgt := 238) dX7_merge_189 (by decide) (fun hc => ?_) (fun hc => ?_)
    · skip
      first | refine wp_aload_n (pc := 238) dX7_merge_238 rfl ?_ | refine wp_aload_nN (pc := 238) dX7_merge_238 rfl ?_
      refine wp_getI (pc := 239) dX7_merge_239 fl_LevelStoreModel_140 (by first | assumption | exact Fx.ok (by assumption) (by decide)) rfl ?_
      refine wp_ret (pc := 242) dX7_merge_242 rfl (by first | trivial | exact Or.inl rfl | exact Or.inr rfl | assumption) ?_
      refine hpost J _ hf hs (fun f q => ?_) rfl
      rw [hb f q]
      by_cases q2 : f ∈ C ∨ f ∈ D
      · rw [if_pos q2, if_pos (q2.imp id (fun z => ⟨z, q⟩))]
      · rw [if_neg q2, if_neg (fun z => q2 (z.imp id (fun w => w.1)))]
    · rw [t330] at hc; omega
  | succ d ih =>
    intro t y J L ht hy hf hs hb hL0
    refine wp_loc hL0 ?_
    subst hy
    have ey : (nI t).toInt = t := tI_n (by omega)
    have cy : (nI t).toNatClampNeg = t := nI_c (by omega)
    have nxt : ∀ (J : ab_II), fM I0 J [54, 55, 56, 57] [22] → mSr J (insA es (((List.range (t + 1)).filter (fun f => decide (f ∈ D))).flatMap (slE I0))) → (∀ f, f < 330 → J 57 f = if f ∈ C ∨ (f ∈ D ∧ f < t + 1) then 1 else 0) → ∀ L, ab_sub L [(0, .ref 39), (1, .int (nI k)), (2, .int i), (3, .int low), (4, .int high), (5, .int (nI t))] → wp 2 46 0 0 MX7_merge 232 L [] (n, S, R, J) post := by
      intro J hf hs hb L hL
      refine wp_loc hL ?_
      refine wp_iinc (pc := 232) dX7_merge_232 rfl (by decide) rfl ?_
      refine wp_goto (pc := 235) (tgt := 184) dX7_merge_235 (by decide) ?_
      exact ih (t + 1) _ J _ (by omega) (nI_i1 t) hf hs hb ⟨rfl, rfl, rfl, rfl, rfl, rfl, trivial⟩
    have skip : t ∉ D → ∀ L, ab_sub L [(0, .ref 39), (1, .int (nI k)), (2, .int i), (3, .int low), (4, .int high), (5, .int (nI t))] → wp 2 46 0 0 MX7_merge 232 L [] (n, S, R, J) post := fun hn L hL => nxt J hf (by rw [rg_out _ (decide_eq_false hn)]; exact hs) (fun f q => by
      rw [hb f q]
      by_cases q2 : f ∈ C ∨ (f ∈ D ∧ f < t)
      · rw [if_pos q2, if_pos (q2.imp id (fun z => ⟨z.1, by omega⟩))]
      · rw [if_neg q2, if_neg (fun z => q2 (z.imp id (fun w => ⟨w.1, by have : f ≠ t := fun e => hn (e ▸ w.1); omega⟩)))]) L hL
    by_cases hm : t ∈ SL (k + 1)
    · obtain ⟨a, ha⟩ := List.getElem?_of_mem hm
      have hl := (List.getElem?_eq_some_iff.mp ha).1
      rw [(hSl.1 (k + 1) (Or.inl (by omega))).1] at hl
      obtain ⟨F, hF⟩ : ∃ F, (σ.FS (k + 1))[a]? = some F := ⟨_, List.getElem?_eq_getElem hl⟩
      obtain ⟨hg1, hg2, hsl0⟩ := (hSl.1 (k + 1) (Or.inl (by omega))).2.2 a t F ha hF
      have hsl : slOK J t F := hsl0.keep (fun j h1 h2 => hf.1 j (by simp; omega) (by omega))
      have hne := hE F (List.mem_of_getElem? hF)
      have hse := hsel a t F ha hF
      have h44 : J 44 t = nI (k + 1) := by rw [hf.1 44 (by simp) (by decide), hg2, elv]
      refine wp_iload (pc := 184) dX7_merge_184 rfl ?_
      refine wp_sipush (pc := 186) (v := 330) dX7_merge_186 (by decide) ?_
      refine wp_icmp_ge (pc := 189) (tgt := 238) dX7_merge_189 (by decide) (fun hc => ?_) (fun hc => ?_)
      · rw [t330] at hc; omega
      · skip
        first | refine wp_aload_n (pc := 192) dX7_merge_192 rfl ?_ | refine wp_aload_nN (pc := 192) dX7_merge_192 rfl ?_
        refine wp_getR (pc := 193) dX7_merge_193 fl_LevelStoreModel_22 (by first | assumption | exact Fx.ok (by assumption) (by decide)) rfl (by first | assumption | exact Fx.ref (by assumption) rfl) ?_
        refine wp_iload (pc := 196) dX7_merge_196 rfl ?_
        refine wp_iaload (pc := 198) dX7_merge_198 (by first | assumption | exact Fx.ok (by assumption) (by decide)) (in_I (by omega) (by rw [z44]; omega)) ?_
        rw [cy, h44]
        refine wp_iload_n (pc := 199) dX7_merge_199 rfl ?_
        refine wp_iconst (pc := 200) (v := 1) dX7_merge_200 (by decide) ?_
        refine wp_iadd (pc := 201) dX7_merge_201 ?_
        rw [ek]
        refine wp_icmp_ne (pc := 202) (tgt := 232) dX7_merge_202 (by decide) (fun hc => ?_) (fun hc => ?_)
        · exact absurd rfl hc
        · skip
          first | refine wp_aload_n (pc := 205) dX7_merge_205 rfl ?_ | refine wp_aload_nN (pc := 205) dX7_merge_205 rfl ?_
          refine wp_iload (pc := 206) dX7_merge_206 rfl ?_
          refine cv_LevelStoreModel_176 (pc := 208) (m_least hX hg1 hsl hne) rfl dX7_merge_208 (by first | assumption | exact Fx.ok (by assumption) (by decide)) ⟨by decide, by decide, Nat.zero_le _, Nat.zero_le _⟩ (Nat.le_of_ble_eq_true rfl) (fun v h hp => ?_)
          obtain ⟨rfl, rfl⟩ := hp
          refine wp_iload (pc := 211) dX7_merge_211 rfl ?_
          refine wp_icmp_gt (pc := 213) (tgt := 232) dX7_merge_213 (by decide) (fun hc => ?_) (fun hc => ?_)
          · have hnD : t ∉ D := fun q => by have := hse.mp q; omega
            first
            | exact skip hnD _ ⟨rfl, rfl, rfl, rfl, rfl, rfl, trivial⟩
            | refine nxt J2 (hf.tr1 hf2) ?_ (fun f q => ?_) _ ⟨rfl, rfl, rfl, rfl, rfl, rfl, trivial⟩
              · rw [rg_in _ (decide_eq_true hyD), List.flatMap_append, insA_app]
                simpa [hsl0.eE] using hs2
              · rw [hb2 f]
                by_cases q2 : f = t
                · rw [if_pos q2, if_pos (Or.inr ⟨by rw [q2]; exact hyD, by omega⟩)]
                · rw [if_neg q2, hb f q]
                  by_cases q3 : f ∈ C ∨ (f ∈ D ∧ f < t)
                  · rw [if_pos q3, if_pos (q3.imp id (fun z => ⟨z.1, by omega⟩))]
                  · rw [if_neg q3, if_neg (fun z => q3 (z.imp id (fun w => ⟨w.1, by omega⟩)))]
          · skip
            first | refine wp_aload_n (pc := 216) dX7_merge_216 rfl ?_ | refine wp_aload_nN (pc := 216) dX7_merge_216 rfl ?_
            refine wp_iload (pc := 217) dX7_merge_217 rfl ?_
            refine cv_LevelStoreModel_180 (pc := 219) (m_greatest hX hg1 hsl hne) rfl dX7_merge_219 (by first | assumption | exact Fx.ok (by assumption) (by decide)) ⟨by decide, by decide, Nat.zero_le _, Nat.zero_le _⟩ (Nat.le_of_ble_eq_true rfl) (fun v h hp => ?_)
            obtain ⟨rfl, rfl⟩ := hp
            refine wp_iload_n (pc := 222) dX7_merge_222 rfl ?_
            refine wp_icmp_lt (pc := 223) (tgt := 232) dX7_merge_223 (by decide) (fun hc => ?_) (fun hc => ?_)
            · have hnD : t ∉ D := fun q => by have := hse.mp q; omega
              first
              | exact skip hnD _ ⟨rfl, rfl, rfl, rfl, rfl, rfl, trivial⟩
              | refine nxt J2 (hf.tr1 hf2) ?_ (fun f q => ?_) _ ⟨rfl, rfl, rfl, rfl, rfl, rfl, trivial⟩
                · rw [rg_in _ (decide_eq_true hyD), List.flatMap_append, insA_app]
                  simpa [hsl0.eE] using hs2
                · rw [hb2 f]
                  by_cases q2 : f = t
                  · rw [if_pos q2, if_pos (Or.inr ⟨by rw [q2]; exact hyD, by omega⟩)]
                  · rw [if_neg q2, hb f q]
                    by_cases q3 : f ∈ C ∨ (f ∈ D ∧ f < t)
                    · rw [if_pos q3, if_pos (q3.imp id (fun z => ⟨z.1, by omega⟩))]
                    · rw [if_neg q3, if_neg (fun z => q3 (z.imp id (fun w => ⟨w.1, by omega⟩)))]
            · have hyD : t ∈ D := hse.mpr (by omega)
              have hbud : (insA es (((List.range t).filter (fun f => decide (f ∈ D))).flatMap (slE I0))).length + F.es.length ≤ 1200 := by
                obtain ⟨r, hr⟩ := rg_pre (fun f => decide (f ∈ D)) (t := t + 1) (by omega)
                rw [hr, rg_in _ (decide_eq_true hyD)] at hlen
                simp only [List.flatMap_append, List.length_append, List.flatMap_cons, List.flatMap_nil, List.append_nil, hsl0.eE] at hlen
                rw [insA_len]; omega
              first | refine wp_aload_n (pc := 226) dX7_merge_226 rfl ?_ | refine wp_aload_nN (pc := 226) dX7_merge_226 rfl ?_
              refine wp_iload (pc := 227) dX7_merge_227 rfl ?_
              refine cv_LevelStoreModel_183 (pc := 229) (m_sourceFile hX hg1 hsl _ hs hbud) rfl dX7_merge_229 (by first | assumption | exact Fx.ok (by assumption) (by decide)) ⟨by decide, by decide, Nat.zero_le _, Nat.zero_le _⟩ (Nat.le_of_ble_eq_true rfl) (fun v h hp => ?_)
              obtain ⟨rfl, J2, rfl, hf2, hs2, hb2⟩ := hp
              first
              | exact skip hnD _ ⟨rfl, rfl, rfl, rfl, rfl, rfl, trivial⟩
              | refine nxt J2 (hf.tr1 hf2) ?_ (fun f q => ?_) _ ⟨rfl, rfl, rfl, rfl, rfl, rfl, trivial⟩
                · rw [rg_in _ (decide_eq_true hyD), List.flatMap_append, insA_app]
                  simpa [hsl0.eE] using hs2
                · rw [hb2 f]
                  by_cases q2 : f = t
                  · rw [if_pos q2, if_pos (Or.inr ⟨by rw [q2]; exact hyD, by omega⟩)]
                  · rw [if_neg q2, hb f q]
                    by_cases q3 : f ∈ C ∨ (f ∈ D ∧ f < t)
                    · rw [if_pos q3, if_pos (q3.imp id (fun z => ⟨z.1, by omega⟩))]
                    · rw [if_neg q3, if_neg (fun z => q3 (z.imp id (fun w => ⟨w.1, by omega⟩)))]
    · have hnD : t ∉ D := fun q => hm (hD t q)
      have h44 : J 44 t ≠ nI (k + 1) := fun q => hm ((hSl.iff (Or.inl (by omega))).mpr ⟨by omega, by rw [elv, ← q, hf.1 44 (by simp) (by decide)]⟩)
      refine wp_iload (pc := 184) dX7_merge_184 rfl ?_
      refine wp_sipush (pc := 186) (v := 330) dX7_merge_186 (by decide) ?_
      refine wp_icmp_ge (pc := 189) (tgt := 238) dX7_merge_189 (by decide) (fun hc => ?_) (fun hc => ?_)
      · rw [t330] at hc; omega
      · skip
        first | refine wp_aload_n (pc := 192) dX7_merge_192 rfl ?_ | refine wp_aload_nN (pc := 192) dX7_merge_192 rfl ?_
        refine wp_getR (pc := 193) dX7_merge_193 fl_LevelStoreModel_22 (by first | assumption | exact Fx.ok (by assumption) (by decide)) rfl (by first | assumption | exact Fx.ref (by assumption) rfl) ?_
        refine wp_iload (pc := 196) dX7_merge_196 rfl ?_
        refine wp_iaload (pc := 198) dX7_merge_198 (by first | assumption | exact Fx.ok (by assumption) (by decide)) (in_I (by omega) (by rw [z44]; omega)) ?_
        rw [cy]
        refine wp_iload_n (pc := 199) dX7_merge_199 rfl ?_
        refine wp_iconst (pc := 200) (v := 1) dX7_merge_200 (by decide) ?_
        refine wp_iadd (pc := 201) dX7_merge_201 ?_
        rw [ek]
        refine wp_icmp_ne (pc := 202) (tgt := 232) dX7_merge_202 (by decide) (fun hc => ?_) (fun hc => ?_)
        · skip
          exact skip hnD _ ⟨rfl, rfl, rfl, rfl, rfl, rfl, trivial⟩
        · exact absurd (tI_eq hc) h44
end M9
