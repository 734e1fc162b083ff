/-! THE REFERENCE: merge -/
/-- the files of a level have no key in common, and stand by keys -/
def ldis (σ : St) (k : Nat) : Prop := ∀ (a b : Nat) (F G : FA), a < b → (σ.FS k)[a]? = some F → (σ.FS k)[b]? = some G → (gk F.es).toInt < (lk G.es).toInt
theorem sl_at {α : Type} {l : List α} {a tf tt : Nat} {x : α} (h : ((l.take tt).drop tf)[a]? = some x) : l[tf + a]? = some x := by
  rw [List.getElem?_drop, List.getElem?_take] at h
  split at h
  · exact h
  · cases h
theorem sl_sub {α : Type} {l : List α} {tf tt : Nat} : ∀ x ∈ (l.take tt).drop tf, x ∈ l := fun x hx => List.mem_of_mem_take (List.mem_of_mem_drop hx)
section M10
variable {σ : St} {n : Nat} {S : ab_SH} {R : ab_RR} {I : ab_II} {SL : Nat → List Nat}
theorem m_mg_181 (hX : Fx n S R) (l i low high : Int32) (post : ab_Po) (hk : ∀ L, ab_sub L [(0, .ref 39), (1, .int l), (2, .int i), (3, .int low), (4, .int high), (5, .int 0)] → wp 2 46 0 0 MX7_merge 184 L [] (n, S, R, I) post) (L : List (Nat × Value)) (hL : ab_sub L [(0, .ref 39), (1, .int l), (2, .int i), (3, .int low), (4, .int high)]) : wp 2 46 0 0 MX7_merge 181 L [] (n, S, R, I) post := by
  refine wp_loc hL ?_
  refine wp_iconst (pc := 181) (v := 0) dX7_merge_181 (by decide) ?_
  refine wp_istore (pc := 182) dX7_merge_182 (by decide) rfl ?_
  exact hk _ ⟨rfl, rfl, rfl, rfl, rfl, rfl, trivial⟩
theorem mdn_sel {k : Nat} (hE : ∀ F ∈ σ.FS (k + 1), (lk F.es).toInt ≤ (gk F.es).toInt) (hd : ldis σ (k + 1)) (hSl : mSl σ I SL) (hk : k < 3) (i : Nat) (a f : Nat) (F : FA) (ha : (SL (k + 1))[a]? = some f) (hF : (σ.FS (k + 1))[a]? = some F) : f ∈ ((SL (k + 1)).take (σ.mtt k i)).drop (σ.mtf k i) ↔ ((lk F.es).toInt ≤ (mhi (σ.msl k i)).toInt ∧ (mlo (σ.msl k i)).toInt ≤ (gk F.es).toInt) := by
  rw [mem_sl (hSl.1 (k + 1) (Or.inl (by omega))).2.1 ha]
  have q1 := cnt_pre (p := eb (mlo (σ.msl k i))) (fs := σ.FS (k + 1)) (fun a b F G hab h1 h2 h3 => by
    have := hd a b F G hab h1 h2
    have := hE G (List.mem_of_getElem? h2)
    simp only [decide_eq_true_eq] at h3 ⊢
    omega) a F hF
  have q2 := cnt_pre (p := bu (mhi (σ.msl k i))) (fs := σ.FS (k + 1)) (fun a b F G hab h1 h2 h3 => by
    have := hd a b F G hab h1 h2
    have := hE F (List.mem_of_getElem? h1)
    simp only [decide_eq_true_eq] at h3 ⊢
    omega) a F hF
  simp only [decide_eq_true_eq] at q1 q2
  unfold St.mtt St.mtf
  omega
theorem allE_mem {k : Nat} (hk : k < 4) {F : FA} (hF : F ∈ σ.FS k) {e : En} (he : e ∈ F.es) : e ∈ allE σ := by
  refine List.mem_append_right _ (List.mem_flatMap.mpr ⟨F, ?_, he⟩)
  rcases (show k = 0 ∨ k = 1 ∨ k = 2 ∨ k = 3 by omega) with rfl | rfl | rfl | rfl <;> simp [hF]
theorem m_merge_65 (hX : Fx n S R) {J : ab_II} (h : RM σ J SL) (hj : σ.job = false) (h5 : σ.FS 5 = []) (hs : ∀ k, k < 4 → lsrt σ k) (hdis : ∀ k, 1 ≤ k → k < 4 → ldis σ k) (hlg : ∀ k, k < 4 → ∀ F ∈ σ.FS k, (lk F.es).toInt ≤ (gk F.es).toInt) (hsE : ∀ k, k < 4 → ∀ F ∈ σ.FS k, srtE F.es) (hu : uqN (allE σ)) (hM : mOK σ) (hkJ : kC I J) {k : Nat} (hk : k < 3) (i : Int32) (hls : lsOK J (SL k)) (hne : σ.FS k ≠ []) (hi : k ≠ 0 → 0 ≤ i.toInt ∧ i.toInt < ((σ.FS k).length : Int)) (L : List (Nat × Value)) (hL : ab_sub L [(0, .ref 39), (1, .int (nI k)), (2, .int i)]) :
    wp 2 46 0 0 MX7_merge 65 L [] (n, S, R, J) (mP I n S R (nI (msrc (σ.msl k i.toInt.toNat) (σ.mdn k i.toInt.toNat)).length, σ.mergeB k i.toInt.toNat)) := by
  refine wp_loc hL ?_
  have hlenF := (h.sl.1 k (Or.inl (by omega))).1
  obtain ⟨m1, m2⟩ := hM k i.toInt.toNat hk hne (fun q => by have := hi q; omega)
  have hpl := (msrc_perm (σ.msl k i.toInt.toNat) (σ.mdn k i.toInt.toNat)).length_eq
  rw [List.length_append] at hpl
  have hup : ∀ F ∈ σ.msl k i.toInt.toNat, F ∈ σ.FS k := sl_sub
  have hdn : ∀ F ∈ σ.mdn k i.toInt.toNat, F ∈ σ.FS (k + 1) := sl_sub
  have hnew : msrc (σ.msl k i.toInt.toNat) (σ.mdn k i.toInt.toNat) ≠ [] := by
    intro q
    rw [q] at hpl
    have hz : (σ.msl k i.toInt.toNat).flatMap FA.es = [] := List.eq_nil_of_length_eq_zero (by rw [List.length_nil] at hpl; omega)
    have hpos : 0 < (σ.FS k).length := List.length_pos_iff.mpr hne
    have hms : ∃ F, F ∈ σ.msl k i.toInt.toNat := by
      by_cases h0 : k = 0
      · refine ⟨(σ.FS k)[0], List.mem_of_getElem? (i := 0) ?_⟩
        unfold St.msl slice mlf mlt
        rw [if_pos h0, if_pos h0, List.getElem?_drop, List.getElem?_take, if_pos (by omega)]
        exact List.getElem?_eq_getElem hpos
      · have := hi h0
        refine ⟨(σ.FS k)[i.toInt.toNat], List.mem_of_getElem? (i := 0) ?_⟩
        unfold St.msl slice mlf mlt
        rw [if_neg h0, if_neg h0, List.getElem?_drop, List.getElem?_take, if_pos (by omega)]
        exact List.getElem?_eq_getElem (by omega)
    obtain ⟨F, hF⟩ := hms
    have he := (hs k (by omega)).1 F (hup F hF)
    exact he (List.flatMap_eq_nil_iff.mp hz F hF)
  first | refine wp_aload_n (pc := 65) dX7_merge_65 rfl ?_ | refine wp_aload_nN (pc := 65) dX7_merge_65 rfl ?_
  refine wp_iload_n (pc := 66) dX7_merge_66 rfl ?_
  refine cv_LevelStoreModel_162 (pc := 67) (m_begin hX (nI k)) rfl dX7_merge_67 (by first | assumption | exact Fx.ok (by assumption) (by decide)) ⟨by decide, by decide, Nat.zero_le _, Nat.zero_le _⟩ (Nat.le_of_ble_eq_true rfl) (fun v h hp => ?_)
  obtain ⟨rfl, J2, rfl, bf, ⟨b20, b31, b21, b22, b23, b30, b32⟩, b57, b58⟩ := hp
  refine wp_sipush (pc := 70) (v := 1000) dX7_merge_70 (by decide) ?_
  refine wp_istore_n (pc := 73) dX7_merge_73 (by decide) rfl ?_
  refine wp_iconst (pc := 74) (v := -1) dX7_merge_74 (by decide) ?_
  refine wp_istore (pc := 75) dX7_merge_75 (by decide) rfl ?_
  refine wp_iconst (pc := 77) (v := 0) dX7_merge_77 (by decide) ?_
  refine wp_istore (pc := 78) dX7_merge_78 (by decide) rfl ?_
  have hSl2 : mSl σ J2 SL := h.sl.keep (fun j q1 q2 => bf.1 j (by simp; omega) (by omega))
  have hls2 : lsOK J2 (SL k) := hls.keep (bf.2 18 (by simp)) (bf.1 53 (by simp) (by decide))
  have hsel : ∀ t, t < (SL k).length → ((k = 0 ∨ i.toInt = t) ↔ (mlf k i.toInt.toNat ≤ t ∧ t < mlt k i.toInt.toNat (σ.FS k).length)) := by
    intro t ht
    unfold mlf mlt
    by_cases h0 : k = 0
    · rw [if_pos h0, if_pos h0]; omega
    · have := hi h0
      rw [if_neg h0, if_neg h0]; omega
  have hlt : mlt k i.toInt.toNat (σ.FS k).length ≤ (SL k).length := by
    unfold mlt
    by_cases h0 : k = 0
    · rw [if_pos h0]; omega
    · have := hi h0
      rw [if_neg h0]; omega
  have hzip : ((((SL (k + 1)).take (σ.mtt k i.toInt.toNat)).drop (σ.mtf k i.toInt.toNat)).flatMap (slE J2)) = (σ.mdn k i.toInt.toNat).flatMap FA.es := by
    refine flat_zip ?_ (fun a f F q1 q2 => ?_)
    · unfold St.mdn slice
      rw [List.length_drop, List.length_drop, List.length_take, List.length_take, (hSl2.1 (k + 1) (Or.inl (by omega))).1]
    · exact ((hSl2.1 (k + 1) (Or.inl (by omega))).2.2 _ f F (sl_at q1) (sl_at q2)).2.2.eE
  have hDn : (((SL (k + 1)).take (σ.mtt k i.toInt.toNat)).drop (σ.mtf k i.toInt.toNat)).Nodup := ((List.drop_sublist _ _).trans (List.take_sublist _ _)).nodup (hSl2.1 (k + 1) (Or.inl (by omega))).2.1
  have hDs : ∀ f ∈ ((SL (k + 1)).take (σ.mtt k i.toInt.toNat)).drop (σ.mtf k i.toInt.toNat), f ∈ SL (k + 1) := sl_sub
  have hBp : (((List.range 330).filter (fun f => decide (f ∈ ((SL (k + 1)).take (σ.mtt k i.toInt.toNat)).drop (σ.mtf k i.toInt.toNat)))).flatMap (slE J2)).Perm ((σ.mdn k i.toInt.toNat).flatMap FA.es) := by
    rw [← hzip]
    refine List.Perm.flatMap_right (slE J2) ((List.perm_ext_iff_of_nodup (List.Nodup.sublist List.filter_sublist List.nodup_range) hDn).mpr (fun f => ?_))
    rw [List.mem_filter, List.mem_range, decide_eq_true_eq]
    exact ⟨fun q => q.2, fun q => ⟨(hSl2.mem (Or.inl (by omega)) (hDs f q)).1, q⟩⟩
  have hAl : ((slice (σ.FS k) (mlf k i.toInt.toNat) (mlt k i.toInt.toNat (σ.FS k).length)).flatMap FA.es).length = ((σ.msl k i.toInt.toNat).flatMap FA.es).length := rfl
  refine m_mg_A hX hSl2 hk i hls2 (hs k (by omega)).1 hsel hlt (by omega) _ (fun J3 hf3 hs3 hb3 L3 hL3 => m_mg_181 hX _ _ _ _ _ (fun L4 hL4 => m_mg_B hX hSl2 hk i _ _ (hs (k + 1) (by omega)).1 (((SL (k + 1)).take (σ.mtt k i.toInt.toNat)).drop (σ.mtf k i.toInt.toNat)) (((SL k).take (mlt k i.toInt.toNat (σ.FS k).length)).drop (mlf k i.toInt.toNat)) hDs (fun a f F q1 q2 => mdn_sel (hlg (k + 1) (by omega)) (hdis (k + 1) (by omega) (by omega)) hSl2 hk i.toInt.toNat a f F q1 q2) (insA [] ((σ.msl k i.toInt.toNat).flatMap FA.es)) (by rw [insA_len, List.length_nil, hBp.length_eq]; omega) _ (fun J4 x hf4 hs4 hb4 hx => ?_) 330 0 _ J3 L4 rfl rfl hf3 hs3 (fun f q => ?_) hL4) L3 hL3) (SL k).length 0 _ J2 _ (by omega) rfl fM.rf ?_ (fun f q => ?_) ⟨rfl, rfl, rfl, ?_, ?_, rfl, trivial⟩
  · have eqn : insA (insA [] ((σ.msl k i.toInt.toNat).flatMap FA.es)) (((List.range 330).filter (fun f => decide (f ∈ ((SL (k + 1)).take (σ.mtt k i.toInt.toNat)).drop (σ.mtf k i.toInt.toNat)))).flatMap (slE J2)) = msrc (σ.msl k i.toInt.toNat) (σ.mdn k i.toInt.toNat) := by
      have hp1 := (insA_perm (((List.range 330).filter (fun f => decide (f ∈ ((SL (k + 1)).take (σ.mtt k i.toInt.toNat)).drop (σ.mtf k i.toInt.toNat)))).flatMap (slE J2)) (insA [] ((σ.msl k i.toInt.toNat).flatMap FA.es))).trans (((insA_perm ((σ.msl k i.toInt.toNat).flatMap FA.es) []).append_right _).trans ((hBp.append_left _).trans List.perm_append_comm))
      rw [List.nil_append] at hp1
      have hp2 := hp1.trans (msrc_perm (σ.msl k i.toInt.toNat) (σ.mdn k i.toInt.toNat)).symm
      refine srt_uniq (insA_srt _ (insA_srt _ List.Pairwise.nil)) (msrc_srt (fun F q => hsE k (by omega) F (hup F q)) (fun F q => hsE (k + 1) (by omega) F (hdn F q))) hp2 (hu.sub (fun e he => ?_))
      rcases List.mem_append.mp (hp1.mem_iff.mp he) with q | q
      · obtain ⟨F, q1, q2⟩ := List.mem_flatMap.mp q
        exact allE_mem (k := k + 1) (by omega) (hdn F q1) q2
      · obtain ⟨F, q1, q2⟩ := List.mem_flatMap.mp q
        exact allE_mem (k := k) (by omega) (hup F q1) q2
    rw [eqn] at hs4
    refine ⟨by rw [hx, hs4.1], J4, SL, rfl, ?_, hkJ.tr ((bf.kC (by simp)).tr (hf4.kC (by simp)))⟩
    refine h.beg h5 (bf.tr hf4 (by simp) (by simp) (by simp) (by simp)) ?_ ?_ ?_ ?_ ?_ ?_ (fun q => by omega) hs4 hnew (fun k q => ?_) (fun f q => ?_)
    · rw [hf4.2 20 (by simp)]; exact b20
    · rw [hf4.2 31 (by simp)]; exact b31
    · rw [hf4.2 21 (by simp), b21]; exact (nI_pred k).symm
    · rw [hf4.2 23 (by simp)]; exact b23
    · rw [hf4.2 30 (by simp)]; exact b30
    · rw [hf4.2 32 (by simp)]; exact b32
    · rw [hf4.1 58 (by simp) (by decide)]; exact b58 k q
    · rw [hb4 f q]
      by_cases q2 : f ∈ ((SL k).take (mlt k i.toInt.toNat (σ.FS k).length)).drop (mlf k i.toInt.toNat) ∨ f ∈ ((SL (k + 1)).take (σ.mtt k i.toInt.toNat)).drop (σ.mtf k i.toInt.toNat)
      · rw [if_pos q2]; exact Or.inl ⟨rfl, q2.imp (fun z => ⟨by omega, z⟩) id⟩
      · rw [if_neg q2]; exact Or.inr ⟨rfl, fun z => q2 (z.imp (fun w => w.2) id)⟩
  · rw [hb3 f q]
    by_cases q2 : f ∈ ((SL k).take (mlt k i.toInt.toNat (σ.FS k).length)).drop (mlf k i.toInt.toNat)
    · rw [if_pos q2, if_pos (Or.inl q2)]
    · rw [if_neg q2, if_neg (fun z => z.elim q2 (fun w => by have := w.2; omega))]
  · rw [Nat.zero_min, List.take_zero, List.drop_nil]; exact ⟨b22, fun j e q => by simp [insA] at q⟩
  · rw [Nat.zero_min, List.take_zero, List.drop_nil, if_neg List.not_mem_nil]; exact b57 f q
  · rw [Nat.zero_min, List.take_zero, List.drop_nil]; rfl
  · rw [Nat.zero_min, List.take_zero, List.drop_nil]; rfl
theorem m_merge (hX : Fx n S R) (h : RM σ I SL) (h5 : σ.job = false → σ.FS 5 = []) (hs : ∀ k, k < 4 → lsrt σ k) (hdis : ∀ k, 1 ≤ k → k < 4 → ldis σ k) (hlg : ∀ k, k < 4 → ∀ F ∈ σ.FS k, (lk F.es).toInt ≤ (gk F.es).toInt) (hsE : ∀ k, k < 4 → ∀ F ∈ σ.FS k, srtE F.es) (hu : uqN (allE σ)) (hM : mOK σ) (l i : Int32) : wp 2 46 0 0 MX7_merge 0 [(0, .ref 39), (1, .int l), (2, .int i)] [] (n, S, R, I) (mP I n S R (σ.merge l i)) := by
  by_cases hb : 0 ≤ l.toInt ∧ l.toInt ≤ 2
  · obtain ⟨k, hk4, rfl, ek, hlv⟩ := isLv_nI (l := l) ⟨hb.1, by omega⟩
    have hk : k < 3 := by omega
    have e0 : (nI k).toInt = k := tI_n (by omega)
    have hlen := (h.sl.1 k (Or.inl hk4)).1
    have h330 : (SL k).length ≤ 330 := by
      have := List.Nodup.length_le_of_subset (l₂ := List.range 330) (h.sl.1 k (Or.inl hk4)).2.1 (fun f q => List.mem_range.mpr (h.sl.mem (Or.inl hk4) q).1)
      rw [List.length_range] at this
      exact this
    first | refine wp_aload_n (pc := 0) dX7_merge_0 rfl ?_ | refine wp_aload_nN (pc := 0) dX7_merge_0 rfl ?_
    refine wp_iconst (pc := 1) (v := 0) dX7_merge_1 (by decide) ?_
    refine wp_putI (pc := 2) dX7_merge_2 fl_LevelStoreModel_89 (by first | assumption | exact Fx.ok (by assumption) (by decide)) rfl rfl (Or.inl rfl) ?_
    have h1 := h.z
    have hk1 := kC.z (I := I)
    generalize ab_u2 I 39 0 0 = J at h1 hk1 ⊢
    refine wp_iload_n (pc := 5) dX7_merge_5 rfl ?_
    refine wp_i2l (pc := 6) dX7_merge_6 ?_
    refine wp_lconst (pc := 7) (v := 0) dX7_merge_7 (by decide) ?_
    refine wp_ldc2 (pc := 8) (v := 2) dX7_merge_8 cl2_LevelStoreModel_126 ?_
    refine cv_LevelStoreModel_103 (pc := 11) (s_inI (nI k) l64_0 l64_2) rfl dX7_merge_11 ⟨by decide, by decide, Nat.zero_le _, Nat.zero_le _⟩ (Nat.le_of_ble_eq_true rfl) (fun v h hp => ?_)
    obtain ⟨rfl, rfl⟩ := hp
    refine wp_if_ne (pc := 14) (tgt := 20) dX7_merge_14 (by decide) (fun hc => ?_) (fun hc => ?_)
    · skip
      first | refine wp_aload_n (pc := 20) dX7_merge_20 rfl ?_ | refine wp_aload_nN (pc := 20) dX7_merge_20 rfl ?_
      refine wp_iload_n (pc := 21) dX7_merge_21 rfl ?_
      refine cv_LevelStoreModel_173 (pc := 22) (m_listLevel hX h1.sl hk4 (hs k hk4)) rfl dX7_merge_22 (by first | assumption | exact Fx.ok (by assumption) (by decide)) ⟨by decide, by decide, Nat.zero_le _, Nat.zero_le _⟩ (Nat.le_of_ble_eq_true rfl) (fun v h hp => ?_)
      obtain ⟨rfl, J2, rfl, hf2, hl2⟩ := hp
      have h2 := h1.ll hf2
      have hk2 := hk1.tr (hf2.kC (by simp))
      have e18 : (J2 39 18).toInt = (SL k).length := by rw [hl2.1, tI_n (by omega)]
      have e2 : (J2 39 18 - 1).toInt64.toInt = ((SL k).length : Int) - 1 := by rw [Int32.toInt_toInt64, tI_sub (by rw [e18, tl_1]; omega) (by rw [e18, tl_1]; omega), e18, tl_1]
      refine wp_iload_n (pc := 25) dX7_merge_25 rfl ?_
      refine wp_if_le (pc := 26) (tgt := 48) dX7_merge_26 (by decide) (fun hc => ?_) (fun hc => ?_)
      · have hi : k ≠ 0 → 0 ≤ i.toInt ∧ i.toInt < ((σ.FS k).length : Int) := fun q => by omega
        have hnU : ¬ (0 < (nI k).toInt ∧ ¬ (0 ≤ i.toInt ∧ i.toInt < ((σ.FS k).length : Int))) := fun q => by omega
        first | refine wp_aload_n (pc := 48) dX7_merge_48 rfl ?_ | refine wp_aload_nN (pc := 48) dX7_merge_48 rfl ?_
        refine wp_getI (pc := 49) dX7_merge_49 fl_LevelStoreModel_143 (by first | assumption | exact Fx.ok (by assumption) (by decide)) rfl ?_
        refine wp_if_ne (pc := 52) (tgt := 62) dX7_merge_52 (by decide) (fun hc => ?_) (fun hc => ?_)
        · have hj := jb_t h2.jb.1 hc
          have hw : σ.merge (nI k) i = (cSTATE, σ) := by unfold St.merge; rw [if_pos hb, ek, if_neg hnU, if_pos (Or.inl hj)]
          refine wp_ldc (pc := 62) (v := -1000003) dX7_merge_62 cn_LevelStoreModel_136 ?_
          refine wp_ret (pc := 64) dX7_merge_64 rfl (by first | trivial | exact Or.inl rfl | exact Or.inr rfl | assumption) ?_
          exact mP.id h2 hw hk2
        · have hj := jb_f h2.jb.1 hc
          first | refine wp_aload_n (pc := 55) dX7_merge_55 rfl ?_ | refine wp_aload_nN (pc := 55) dX7_merge_55 rfl ?_
          refine wp_getI (pc := 56) dX7_merge_56 fl_LevelStoreModel_137 (by first | assumption | exact Fx.ok (by assumption) (by decide)) rfl ?_
          refine wp_if_ne (pc := 59) (tgt := 65) dX7_merge_59 (by decide) (fun hc => ?_) (fun hc => ?_)
          · have hne : σ.FS k ≠ [] := fun q => hc (by rw [e18, hlen, q]; rfl)
            have hw : σ.merge (nI k) i = (nI (msrc (σ.msl k i.toInt.toNat) (σ.mdn k i.toInt.toNat)).length, σ.mergeB k i.toInt.toNat) := by unfold St.merge; rw [if_pos hb, ek, if_neg hnU, if_neg (fun q => q.elim (fun z => by rw [hj] at z; cases z) hne)]
            rw [hw]
            exact m_merge_65 hX h2 hj (h5 hj) hs hdis hlg hsE hu hM hk2 hk i hl2 hne hi _ ⟨rfl, rfl, rfl, trivial⟩
          · have hw : σ.merge (nI k) i = (cSTATE, σ) := by unfold St.merge; rw [if_pos hb, ek, if_neg hnU, if_pos (Or.inr (List.eq_nil_of_length_eq_zero (by omega)))]
            refine wp_ldc (pc := 62) (v := -1000003) dX7_merge_62 cn_LevelStoreModel_136 ?_
            refine wp_ret (pc := 64) dX7_merge_64 rfl (by first | trivial | exact Or.inl rfl | exact Or.inr rfl | assumption) ?_
            exact mP.id h2 hw hk2
      · have hkp := hc
        refine wp_iload_n (pc := 29) dX7_merge_29 rfl ?_
        refine wp_i2l (pc := 30) dX7_merge_30 ?_
        refine wp_lconst (pc := 31) (v := 0) dX7_merge_31 (by decide) ?_
        first | refine wp_aload_n (pc := 32) dX7_merge_32 rfl ?_ | refine wp_aload_nN (pc := 32) dX7_merge_32 rfl ?_
        refine wp_getI (pc := 33) dX7_merge_33 fl_LevelStoreModel_137 (by first | assumption | exact Fx.ok (by assumption) (by decide)) rfl ?_
        refine wp_iconst (pc := 36) (v := 1) dX7_merge_36 (by decide) ?_
        refine wp_isub (pc := 37) dX7_merge_37 ?_
        refine wp_i2l (pc := 38) dX7_merge_38 ?_
        refine cv_LevelStoreModel_103 (pc := 39) (s_inI i l64_0 e2) rfl dX7_merge_39 ⟨by decide, by decide, Nat.zero_le _, Nat.zero_le _⟩ (Nat.le_of_ble_eq_true rfl) (fun v h hp => ?_)
        obtain ⟨rfl, rfl⟩ := hp
        refine wp_if_ne (pc := 42) (tgt := 48) dX7_merge_42 (by decide) (fun hc => ?_) (fun hc => ?_)
        · have hii := ite01n hc
          have hi : k ≠ 0 → 0 ≤ i.toInt ∧ i.toInt < ((σ.FS k).length : Int) := fun q => by omega
          have hnU : ¬ (0 < (nI k).toInt ∧ ¬ (0 ≤ i.toInt ∧ i.toInt < ((σ.FS k).length : Int))) := fun q => q.2 (by omega)
          first | refine wp_aload_n (pc := 48) dX7_merge_48 rfl ?_ | refine wp_aload_nN (pc := 48) dX7_merge_48 rfl ?_
          refine wp_getI (pc := 49) dX7_merge_49 fl_LevelStoreModel_143 (by first | assumption | exact Fx.ok (by assumption) (by decide)) rfl ?_
          refine wp_if_ne (pc := 52) (tgt := 62) dX7_merge_52 (by decide) (fun hc => ?_) (fun hc => ?_)
          · have hj := jb_t h2.jb.1 hc
            have hw : σ.merge (nI k) i = (cSTATE, σ) := by unfold St.merge; rw [if_pos hb, ek, if_neg hnU, if_pos (Or.inl hj)]
            refine wp_ldc (pc := 62) (v := -1000003) dX7_merge_62 cn_LevelStoreModel_136 ?_
            refine wp_ret (pc := 64) dX7_merge_64 rfl (by first | trivial | exact Or.inl rfl | exact Or.inr rfl | assumption) ?_
            exact mP.id h2 hw hk2
          · have hj := jb_f h2.jb.1 hc
            first | refine wp_aload_n (pc := 55) dX7_merge_55 rfl ?_ | refine wp_aload_nN (pc := 55) dX7_merge_55 rfl ?_
            refine wp_getI (pc := 56) dX7_merge_56 fl_LevelStoreModel_137 (by first | assumption | exact Fx.ok (by assumption) (by decide)) rfl ?_
            refine wp_if_ne (pc := 59) (tgt := 65) dX7_merge_59 (by decide) (fun hc => ?_) (fun hc => ?_)
            · have hne : σ.FS k ≠ [] := fun q => hc (by rw [e18, hlen, q]; rfl)
              have hw : σ.merge (nI k) i = (nI (msrc (σ.msl k i.toInt.toNat) (σ.mdn k i.toInt.toNat)).length, σ.mergeB k i.toInt.toNat) := by unfold St.merge; rw [if_pos hb, ek, if_neg hnU, if_neg (fun q => q.elim (fun z => by rw [hj] at z; cases z) hne)]
              rw [hw]
              exact m_merge_65 hX h2 hj (h5 hj) hs hdis hlg hsE hu hM hk2 hk i hl2 hne hi _ ⟨rfl, rfl, rfl, trivial⟩
            · have hw : σ.merge (nI k) i = (cSTATE, σ) := by unfold St.merge; rw [if_pos hb, ek, if_neg hnU, if_pos (Or.inr (List.eq_nil_of_length_eq_zero (by omega)))]
              refine wp_ldc (pc := 62) (v := -1000003) dX7_merge_62 cn_LevelStoreModel_136 ?_
              refine wp_ret (pc := 64) dX7_merge_64 rfl (by first | trivial | exact Or.inl rfl | exact Or.inr rfl | assumption) ?_
              exact mP.id h2 hw hk2
        · have hii := ite01 hc
          refine wp_ldc (pc := 45) (v := -1000001) dX7_merge_45 cn_LevelStoreModel_135 ?_
          refine wp_ret (pc := 47) dX7_merge_47 rfl (by first | trivial | exact Or.inl rfl | exact Or.inr rfl | assumption) ?_
          exact mP.id h2 (by unfold St.merge; rw [if_pos hb, if_pos (by rw [ek]; omega)]) hk2
    · exact absurd hb (ite01 hc)
  · skip
    first | refine wp_aload_n (pc := 0) dX7_merge_0 rfl ?_ | refine wp_aload_nN (pc := 0) dX7_merge_0 rfl ?_
    refine wp_iconst (pc := 1) (v := 0) dX7_merge_1 (by decide) ?_
    refine wp_putI (pc := 2) dX7_merge_2 fl_LevelStoreModel_89 (by first | assumption | exact Fx.ok (by assumption) (by decide)) rfl rfl (Or.inl rfl) ?_
    have h1 := h.z
    have hk1 := kC.z (I := I)
    generalize ab_u2 I 39 0 0 = J at h1 hk1 ⊢
    refine wp_iload_n (pc := 5) dX7_merge_5 rfl ?_
    refine wp_i2l (pc := 6) dX7_merge_6 ?_
    refine wp_lconst (pc := 7) (v := 0) dX7_merge_7 (by decide) ?_
    refine wp_ldc2 (pc := 8) (v := 2) dX7_merge_8 cl2_LevelStoreModel_126 ?_
    refine cv_LevelStoreModel_103 (pc := 11) (s_inI l l64_0 l64_2) rfl dX7_merge_11 ⟨by decide, by decide, Nat.zero_le _, Nat.zero_le _⟩ (Nat.le_of_ble_eq_true rfl) (fun v h hp => ?_)
    obtain ⟨rfl, rfl⟩ := hp
    refine wp_if_ne (pc := 14) (tgt := 20) dX7_merge_14 (by decide) (fun hc => ?_) (fun hc => ?_)
    · exact absurd (ite01n hc) hb
    · skip
      refine wp_ldc (pc := 17) (v := -1000001) dX7_merge_17 cn_LevelStoreModel_135 ?_
      refine wp_ret (pc := 19) dX7_merge_19 rfl (by first | trivial | exact Or.inl rfl | exact Or.inr rfl | assumption) ?_
      exact mP.id h1 (by unfold St.merge; rw [if_neg hb]) hk1
end M10
