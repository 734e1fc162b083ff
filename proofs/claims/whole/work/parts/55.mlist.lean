/-! THE REFERENCE: the files of a level in their order -/
def lsOK (I : ab_II) (l : List Nat) : Prop := I 39 18 = nI l.length ∧ ∀ (i f : Nat), l[i]? = some f → I 53 i = nI f
/-- a level's files are there, and stand in their order -/
def lsrt (σ : St) (k : Nat) : Prop := (∀ F ∈ σ.FS k, F.es ≠ []) ∧ ∀ (a b : Nat) (F G : FA), a < b → (σ.FS k)[a]? = some F → (σ.FS k)[b]? = some G → (k = 0 → F.1.toInt < G.1.toInt) ∧ (k ≠ 0 → (lk F.es).toInt < (lk G.es).toInt)
theorem lk_get {es : List En} {e : En} (h : es[0]? = some e) : lk es = e.1 := by
  cases es with
  | nil => simp at h
  | cons a t => simp at h; rw [h]; rfl
theorem lk_lfn {es : List En} (h : es ≠ []) : lk es = (lfn es 0).1 := by
  cases es with
  | nil => exact absurd rfl h
  | cons a t => rfl
theorem gk_lfn {es : List En} (h : es ≠ []) : gk es = (lfn es (es.length - 1)).1 := by
  unfold gk lfn
  rw [List.getLast?_eq_getElem?, List.getD_eq_getElem?_getD]
  have hl : es.length - 1 < es.length := by have := List.length_pos_iff.mpr h; omega
  rw [List.getElem?_eq_getElem hl]
  rfl
theorem filt_split {L : List Nat} (hn : L.Nodup) {t a : Nat} (ha : L[a]? = some t) : L.filter (fun f => decide (f < t)) = (L.take a).filter (fun f => decide (f < t)) ++ (L.drop (a + 1)).filter (fun f => decide (f < t)) ∧ L.filter (fun f => decide (f < t + 1)) = (L.take a).filter (fun f => decide (f < t)) ++ t :: (L.drop (a + 1)).filter (fun f => decide (f < t)) := by
  obtain ⟨hl, hv⟩ := List.getElem?_eq_some_iff.mp ha
  have hL : L = L.take a ++ t :: L.drop (a + 1) := by rw [← hv, List.getElem_cons_drop, List.take_append_drop]
  have hnd := hn
  rw [hL] at hnd
  unfold List.Nodup at hnd
  rw [List.pairwise_append, List.pairwise_cons] at hnd
  have h1 : ∀ f ∈ L.take a, f ≠ t := fun f hf => hnd.2.2 f hf t List.mem_cons_self
  have h2 : ∀ f ∈ L.drop (a + 1), f ≠ t := fun f hf => Ne.symm (hnd.2.1.1 f hf)
  constructor
  · conv => lhs; rw [hL]
    rw [List.filter_append, List.filter_cons]
    simp
  · conv => lhs; rw [hL]
    rw [List.filter_append, List.filter_cons]
    simp only [show decide (t < t + 1) = true by simp, if_true]
    congr 1
    · exact List.filter_congr (fun f hf => by have := h1 f hf; rw [decide_eq_decide]; omega)
    · congr 1
      exact List.filter_congr (fun f hf => by have := h2 f hf; rw [decide_eq_decide]; omega)
section M5
variable {σ : St} {n : Nat} {S : ab_SH} {R : ab_RR} {I : ab_II} {SL : Nat → List Nat}
theorem lsOK.keep {I' : ab_II} {l : List Nat} (h : lsOK I l) (h1 : I' 39 18 = I 39 18) (h2 : I' 53 = I 53) : lsOK I' l := ⟨by rw [h1]; exact h.1, fun i f q => by rw [h2]; exact h.2 i f q⟩
theorem m_ll_fin (hX : Fx n S R) {I0 : ab_II} (l : Int32) {t : Nat} (ht : t < 330) (A B : List Nat) (hlen : A.length + B.length < 330) (post : ab_Po) (hpost : ∀ J, fM I0 J [53] [18] → lsOK J (A ++ t :: B) → ∀ L, ab_sub L [(0, .ref 39), (1, .int l), (2, .int (nI t))] → wp 0 0 0 0 MX7_listLevel 127 L [] (n, S, R, J) post)
    (J : ab_II) (hf : fM I0 J [53] [18]) (h18 : J 39 18 = nI (A.length + B.length)) (h1 : ∀ (i f : Nat), i < A.length → (A ++ B)[i]? = some f → J 53 i = nI f) (h2 : ∀ (i f : Nat), A.length ≤ i → (A ++ B)[i]? = some f → J 53 (i + 1) = nI f) (L : List (Nat × Value)) (hL : ab_sub L [(0, .ref 39), (1, .int l), (2, .int (nI t)), (3, .int (nI A.length))]) : wp 0 0 0 0 MX7_listLevel 110 L [] (n, S, R, J) post := by
  refine wp_loc hL ?_
  have z53 : (S 53).2 = 330 := hX.len (by decide)
  have ea : (nI A.length).toInt = A.length := tI_n (by omega)
  have ca : (nI A.length).toNatClampNeg = A.length := nI_c (by omega)
  first | refine wp_aload_n (pc := 110) dX7_listLevel_110 rfl ?_ | refine wp_aload_nN (pc := 110) dX7_listLevel_110 rfl ?_
  refine wp_getR (pc := 111) dX7_listLevel_111 fl_LevelStoreModel_49 (by first | assumption | exact Fx.ok (by assumption) (by decide)) rfl (by first | assumption | exact Fx.ref (by assumption) rfl) ?_
  refine wp_iload_n (pc := 114) dX7_listLevel_114 rfl ?_
  refine wp_iload_n (pc := 115) dX7_listLevel_115 rfl ?_
  refine wp_iastore (pc := 116) dX7_listLevel_116 (by first | assumption | exact Fx.ok (by assumption) (by decide)) (in_I (by omega) (by rw [z53]; omega)) ?_
  first | refine wp_aload_n (pc := 117) dX7_listLevel_117 rfl ?_ | refine wp_aload_nN (pc := 117) dX7_listLevel_117 rfl ?_
  refine wp_dup (pc := 118) dX7_listLevel_118 rfl ?_
  refine wp_getI (pc := 119) dX7_listLevel_119 fl_LevelStoreModel_137 (by first | assumption | exact Fx.ok (by assumption) (by decide)) rfl ?_
  rw [ca, ab_u2_r _ _ (by decide), h18]
  refine wp_iconst (pc := 122) (v := 1) dX7_listLevel_122 (by decide) ?_
  refine wp_iadd (pc := 123) dX7_listLevel_123 ?_
  rw [nI_1]
  refine wp_putI (pc := 124) dX7_listLevel_124 fl_LevelStoreModel_137 (by first | assumption | exact Fx.ok (by assumption) (by decide)) rfl rfl (Or.inl rfl) ?_
  refine hpost _ (hf.tr1 ((fM.ua (by simp) (by decide)).tr1 (fM.uf (by simp)))) ⟨?_, fun i f q => ?_⟩ _ ⟨rfl, rfl, rfl, trivial⟩
  · rw [ab_u2_s]; congr 1; simp; omega
  · rw [ab_u2_r _ _ (by decide)]
    by_cases q1 : i < A.length
    · rw [ab_u2_n _ _ (Or.inr (by omega))]
      rw [List.getElem?_append_left q1] at q
      exact h1 i f q1 (by rw [List.getElem?_append_left q1]; exact q)
    · rw [List.getElem?_append_right (by omega)] at q
      by_cases q2 : i = A.length
      · subst q2
        simp at q
        rw [ab_u2_s, q]
      · rw [ab_u2_n _ _ (Or.inr q2)]
        rw [show i - A.length = (i - 1 - A.length) + 1 by omega, List.getElem?_cons_succ] at q
        have := h2 (i - 1) f (by omega) (by rw [List.getElem?_append_right (by omega)]; exact q)
        rw [show i - 1 + 1 = i by omega] at this
        exact this
theorem m_ll_in (hX : Fx n S R) {I0 : ab_II} (l : Int32) (κ : Nat → Int32) (hκ0 : l.toInt = 0 → ∀ f, κ f = I0 45 f) (hκ1 : l.toInt ≠ 0 → ∀ f, κ f = I0 49 (30 * f)) {t : Nat} (ht : t < 330) (A B : List Nat) (hA : ∀ f ∈ A, f < 330 ∧ (κ f).toInt < (κ t).toInt) (hB : ∀ f ∈ B, f < 330 ∧ (κ t).toInt < (κ f).toInt) (hlen : A.length + B.length < 330) (post : ab_Po) (hpost : ∀ J, fM I0 J [53] [18] → lsOK J (A ++ t :: B) → ∀ L, ab_sub L [(0, .ref 39), (1, .int l), (2, .int (nI t))] → wp 0 0 0 0 MX7_listLevel 127 L [] (n, S, R, J) post) :
    ∀ (b : Nat) (y : Int32) (J : ab_II) (L : List (Nat × Value)), b ≤ B.length → y = nI (A.length + b) → fM I0 J [53] [18] → J 39 18 = nI (A.length + B.length) → (∀ (i f : Nat), i < A.length + b → (A ++ B)[i]? = some f → J 53 i = nI f) → (∀ (i f : Nat), A.length + b ≤ i → (A ++ B)[i]? = some f → J 53 (i + 1) = nI f) → ab_sub L [(0, .ref 39), (1, .int l), (2, .int (nI t)), (3, .int y)] → wp 0 0 0 0 MX7_listLevel 29 L [] (n, S, R, J) post := by
  have z53 : (S 53).2 = 330 := hX.len (by decide)
  have z45 : (S 45).2 = 330 := hX.len (by decide)
  have z49 : (S 49).2 = 9900 := hX.len (by decide)
  have et : (nI t).toInt = t := tI_n (by omega)
  have ct : (nI t).toNatClampNeg = t := nI_c (by omega)
  have e30 : ∀ f, f < 330 → (30 * nI f : Int32) = nI (30 * f) ∧ (nI (30 * f)).toInt = ((30 * f : Nat) : Int) ∧ (nI (30 * f)).toNatClampNeg = 30 * f := fun f hf => ⟨i30 f, tI_n (by omega), nI_c (by omega)⟩
  intro b
  induction b with
  | zero =>
    intro y J L hb hy hf h18 h1 h2 hL0
    refine wp_loc hL0 ?_
    rw [Nat.add_zero] at hy h1 h2
    have ey : y.toInt = A.length := by rw [hy, tI_n (by omega)]
    have h45 : J 45 = I0 45 := hf.1 45 (by simp) (by decide)
    have h49 : J 49 = I0 49 := hf.1 49 (by simp) (by decide)
    by_cases hA0 : A.length = 0
    · skip
      refine wp_iload_n (pc := 29) dX7_listLevel_29 rfl ?_
      refine wp_if_le (pc := 30) (tgt := 110) dX7_listLevel_30 (by decide) (fun hc => ?_) (fun hc => ?_)
      · skip
        exact m_ll_fin hX l ht A B hlen post hpost J hf h18 h1 h2 _ ⟨rfl, rfl, rfl, by rw [← hy]; rfl, trivial⟩
      · omega
    · have e1 : y - 1 = nI (A.length - 1) := by rw [hy]; exact pk_sub (b := 1) (Nat.one_le_iff_ne_zero.mpr hA0)
      have e2 : (nI (A.length - 1)).toInt = ((A.length - 1 : Nat) : Int) := tI_n (by omega)
      have c2 : (nI (A.length - 1)).toNatClampNeg = A.length - 1 := nI_c (by omega)
      obtain ⟨g, hg⟩ : ∃ g, A[A.length - 1]? = some g := ⟨_, List.getElem?_eq_getElem (by omega)⟩
      have hv : J 53 (A.length - 1) = nI g := h1 _ _ (by omega) (by rw [List.getElem?_append_left (by omega)]; exact hg)
      obtain ⟨hg1, hg2⟩ := hA g (List.mem_of_getElem? hg)
      have eg : (nI g).toInt = g := tI_n (by omega)
      have cg : (nI g).toNatClampNeg = g := nI_c (by omega)
      refine wp_iload_n (pc := 29) dX7_listLevel_29 rfl ?_
      refine wp_if_le (pc := 30) (tgt := 110) dX7_listLevel_30 (by decide) (fun hc => ?_) (fun hc => ?_)
      · omega
      · skip
        refine wp_iload_n (pc := 33) dX7_listLevel_33 rfl ?_
        refine wp_if_ne (pc := 34) (tgt := 62) dX7_listLevel_34 (by decide) (fun hc => ?_) (fun hc => ?_)
        · have hl := hc
          first | refine wp_aload_n (pc := 62) dX7_listLevel_62 rfl ?_ | refine wp_aload_nN (pc := 62) dX7_listLevel_62 rfl ?_
          refine wp_getR (pc := 63) dX7_listLevel_63 fl_LevelStoreModel_37 (by first | assumption | exact Fx.ok (by assumption) (by decide)) rfl (by first | assumption | exact Fx.ref (by assumption) rfl) ?_
          refine wp_bipush (pc := 66) (v := 30) dX7_listLevel_66 (by decide) ?_
          first | refine wp_aload_n (pc := 68) dX7_listLevel_68 rfl ?_ | refine wp_aload_nN (pc := 68) dX7_listLevel_68 rfl ?_
          refine wp_getR (pc := 69) dX7_listLevel_69 fl_LevelStoreModel_49 (by first | assumption | exact Fx.ok (by assumption) (by decide)) rfl (by first | assumption | exact Fx.ref (by assumption) rfl) ?_
          refine wp_iload_n (pc := 72) dX7_listLevel_72 rfl ?_
          refine wp_iconst (pc := 73) (v := 1) dX7_listLevel_73 (by decide) ?_
          refine wp_isub (pc := 74) dX7_listLevel_74 ?_
          rw [e1]
          refine wp_iaload (pc := 75) dX7_listLevel_75 (by first | assumption | exact Fx.ok (by assumption) (by decide)) (in_I (by omega) (by rw [z53]; omega)) ?_
          rw [c2, hv]
          refine wp_imul (pc := 76) dX7_listLevel_76 ?_
          rw [(e30 g hg1).1]
          refine wp_iaload (pc := 77) dX7_listLevel_77 (by first | assumption | exact Fx.ok (by assumption) (by decide)) (in_I (by rw [(e30 g hg1).2.1]; omega) (by rw [z49, (e30 g hg1).2.1]; omega)) ?_
          rw [(e30 g hg1).2.2, h49, ← hκ1 hl]
          first | refine wp_aload_n (pc := 78) dX7_listLevel_78 rfl ?_ | refine wp_aload_nN (pc := 78) dX7_listLevel_78 rfl ?_
          refine wp_getR (pc := 79) dX7_listLevel_79 fl_LevelStoreModel_37 (by first | assumption | exact Fx.ok (by assumption) (by decide)) rfl (by first | assumption | exact Fx.ref (by assumption) rfl) ?_
          refine wp_bipush (pc := 82) (v := 30) dX7_listLevel_82 (by decide) ?_
          refine wp_iload_n (pc := 84) dX7_listLevel_84 rfl ?_
          refine wp_imul (pc := 85) dX7_listLevel_85 ?_
          rw [(e30 t ht).1]
          refine wp_iaload (pc := 86) dX7_listLevel_86 (by first | assumption | exact Fx.ok (by assumption) (by decide)) (in_I (by rw [(e30 t ht).2.1]; omega) (by rw [z49, (e30 t ht).2.1]; omega)) ?_
          rw [(e30 t ht).2.2, h49, ← hκ1 hl]
          refine wp_icmp_le (pc := 87) (tgt := 110) dX7_listLevel_87 (by decide) (fun hc => ?_) (fun hc => ?_)
          · skip
            exact m_ll_fin hX l ht A B hlen post hpost J hf h18 h1 h2 _ ⟨rfl, rfl, rfl, by rw [← hy]; rfl, trivial⟩
          · omega
        · have hl := hc
          first | refine wp_aload_n (pc := 37) dX7_listLevel_37 rfl ?_ | refine wp_aload_nN (pc := 37) dX7_listLevel_37 rfl ?_
          refine wp_getR (pc := 38) dX7_listLevel_38 fl_LevelStoreModel_25 (by first | assumption | exact Fx.ok (by assumption) (by decide)) rfl (by first | assumption | exact Fx.ref (by assumption) rfl) ?_
          first | refine wp_aload_n (pc := 41) dX7_listLevel_41 rfl ?_ | refine wp_aload_nN (pc := 41) dX7_listLevel_41 rfl ?_
          refine wp_getR (pc := 42) dX7_listLevel_42 fl_LevelStoreModel_49 (by first | assumption | exact Fx.ok (by assumption) (by decide)) rfl (by first | assumption | exact Fx.ref (by assumption) rfl) ?_
          refine wp_iload_n (pc := 45) dX7_listLevel_45 rfl ?_
          refine wp_iconst (pc := 46) (v := 1) dX7_listLevel_46 (by decide) ?_
          refine wp_isub (pc := 47) dX7_listLevel_47 ?_
          rw [e1]
          refine wp_iaload (pc := 48) dX7_listLevel_48 (by first | assumption | exact Fx.ok (by assumption) (by decide)) (in_I (by omega) (by rw [z53]; omega)) ?_
          rw [c2, hv]
          refine wp_iaload (pc := 49) dX7_listLevel_49 (by first | assumption | exact Fx.ok (by assumption) (by decide)) (in_I (by omega) (by rw [z45]; omega)) ?_
          rw [cg, h45, ← hκ0 hl]
          first | refine wp_aload_n (pc := 50) dX7_listLevel_50 rfl ?_ | refine wp_aload_nN (pc := 50) dX7_listLevel_50 rfl ?_
          refine wp_getR (pc := 51) dX7_listLevel_51 fl_LevelStoreModel_25 (by first | assumption | exact Fx.ok (by assumption) (by decide)) rfl (by first | assumption | exact Fx.ref (by assumption) rfl) ?_
          refine wp_iload_n (pc := 54) dX7_listLevel_54 rfl ?_
          refine wp_iaload (pc := 55) dX7_listLevel_55 (by first | assumption | exact Fx.ok (by assumption) (by decide)) (in_I (by omega) (by rw [z45]; omega)) ?_
          rw [ct, h45, ← hκ0 hl]
          refine wp_icmp_le (pc := 56) (tgt := 110) dX7_listLevel_56 (by decide) (fun hc => ?_) (fun hc => ?_)
          · skip
            exact m_ll_fin hX l ht A B hlen post hpost J hf h18 h1 h2 _ ⟨rfl, rfl, rfl, by rw [← hy]; rfl, trivial⟩
          · omega
  | succ b ih =>
    intro y J L hb hy hf h18 h1 h2 hL0
    refine wp_loc hL0 ?_
    have ey : y.toInt = ((A.length + b + 1 : Nat) : Int) := by rw [hy, tI_n (by omega)]; rfl
    have cy : y.toNatClampNeg = A.length + b + 1 := by rw [tI_c]; omega
    have h45 : J 45 = I0 45 := hf.1 45 (by simp) (by decide)
    have h49 : J 49 = I0 49 := hf.1 49 (by simp) (by decide)
    have e1 : y - 1 = nI (A.length + b) := by rw [hy]; exact nI_pred _
    have e2 : (nI (A.length + b)).toInt = ((A.length + b : Nat) : Int) := tI_n (by omega)
    have c2 : (nI (A.length + b)).toNatClampNeg = A.length + b := nI_c (by omega)
    obtain ⟨g, hg⟩ : ∃ g, B[b]? = some g := ⟨_, List.getElem?_eq_getElem (by omega)⟩
    have hgA : (A ++ B)[A.length + b]? = some g := by rw [List.getElem?_append_right (by omega), show A.length + b - A.length = b by omega]; exact hg
    have hv : J 53 (A.length + b) = nI g := h1 _ _ (by omega) hgA
    obtain ⟨hg1, hg2⟩ := hB g (List.mem_of_getElem? hg)
    have eg : (nI g).toInt = g := tI_n (by omega)
    have cg : (nI g).toNatClampNeg = g := nI_c (by omega)
    have nxt : ∀ L, ab_sub L [(0, .ref 39), (1, .int l), (2, .int (nI t)), (3, .int y)] → wp 0 0 0 0 MX7_listLevel 90 L [] (n, S, R, J) post := by
      intro L hL
      refine wp_loc hL ?_
      first | refine wp_aload_n (pc := 90) dX7_listLevel_90 rfl ?_ | refine wp_aload_nN (pc := 90) dX7_listLevel_90 rfl ?_
      refine wp_getR (pc := 91) dX7_listLevel_91 fl_LevelStoreModel_49 (by first | assumption | exact Fx.ok (by assumption) (by decide)) rfl (by first | assumption | exact Fx.ref (by assumption) rfl) ?_
      refine wp_iload_n (pc := 94) dX7_listLevel_94 rfl ?_
      first | refine wp_aload_n (pc := 95) dX7_listLevel_95 rfl ?_ | refine wp_aload_nN (pc := 95) dX7_listLevel_95 rfl ?_
      refine wp_getR (pc := 96) dX7_listLevel_96 fl_LevelStoreModel_49 (by first | assumption | exact Fx.ok (by assumption) (by decide)) rfl (by first | assumption | exact Fx.ref (by assumption) rfl) ?_
      refine wp_iload_n (pc := 99) dX7_listLevel_99 rfl ?_
      refine wp_iconst (pc := 100) (v := 1) dX7_listLevel_100 (by decide) ?_
      refine wp_isub (pc := 101) dX7_listLevel_101 ?_
      rw [e1]
      refine wp_iaload (pc := 102) dX7_listLevel_102 (by first | assumption | exact Fx.ok (by assumption) (by decide)) (in_I (by omega) (by rw [z53]; omega)) ?_
      rw [c2, hv]
      refine wp_iastore (pc := 103) dX7_listLevel_103 (by first | assumption | exact Fx.ok (by assumption) (by decide)) (in_I (by omega) (by rw [z53]; omega)) ?_
      rw [cy]
      refine wp_iinc (pc := 104) dX7_listLevel_104 rfl (by decide) rfl ?_
      refine wp_goto (pc := 107) (tgt := 29) dX7_listLevel_107 (by decide) ?_
      refine ih _ _ _ (by omega) (by rw [hy]; exact nI_m1 _) (hf.tr1 (fM.ua (by simp) (by decide))) (by rw [ab_u2_r _ _ (by decide)]; exact h18) (fun i f q1 q2 => ?_) (fun i f q1 q2 => ?_) ⟨rfl, rfl, rfl, rfl, trivial⟩
      · rw [ab_u2_n _ _ (Or.inr (by omega))]; exact h1 i f (by omega) q2
      · by_cases q3 : i = A.length + b
        · subst q3
          rw [ab_u2_s]
          rw [hgA] at q2
          cases q2; rfl
        · rw [ab_u2_n _ _ (Or.inr (by omega))]; exact h2 i f (by omega) q2
    refine wp_iload_n (pc := 29) dX7_listLevel_29 rfl ?_
    refine wp_if_le (pc := 30) (tgt := 110) dX7_listLevel_30 (by decide) (fun hc => ?_) (fun hc => ?_)
    · omega
    · skip
      refine wp_iload_n (pc := 33) dX7_listLevel_33 rfl ?_
      refine wp_if_ne (pc := 34) (tgt := 62) dX7_listLevel_34 (by decide) (fun hc => ?_) (fun hc => ?_)
      · have hl := hc
        first | refine wp_aload_n (pc := 62) dX7_listLevel_62 rfl ?_ | refine wp_aload_nN (pc := 62) dX7_listLevel_62 rfl ?_
        refine wp_getR (pc := 63) dX7_listLevel_63 fl_LevelStoreModel_37 (by first | assumption | exact Fx.ok (by assumption) (by decide)) rfl (by first | assumption | exact Fx.ref (by assumption) rfl) ?_
        refine wp_bipush (pc := 66) (v := 30) dX7_listLevel_66 (by decide) ?_
        first | refine wp_aload_n (pc := 68) dX7_listLevel_68 rfl ?_ | refine wp_aload_nN (pc := 68) dX7_listLevel_68 rfl ?_
        refine wp_getR (pc := 69) dX7_listLevel_69 fl_LevelStoreModel_49 (by first | assumption | exact Fx.ok (by assumption) (by decide)) rfl (by first | assumption | exact Fx.ref (by assumption) rfl) ?_
        refine wp_iload_n (pc := 72) dX7_listLevel_72 rfl ?_
        refine wp_iconst (pc := 73) (v := 1) dX7_listLevel_73 (by decide) ?_
        refine wp_isub (pc := 74) dX7_listLevel_74 ?_
        rw [e1]
        refine wp_iaload (pc := 75) dX7_listLevel_75 (by first | assumption | exact Fx.ok (by assumption) (by decide)) (in_I (by omega) (by rw [z53]; omega)) ?_
        rw [c2, hv]
        refine wp_imul (pc := 76) dX7_listLevel_76 ?_
        rw [(e30 g hg1).1]
        refine wp_iaload (pc := 77) dX7_listLevel_77 (by first | assumption | exact Fx.ok (by assumption) (by decide)) (in_I (by rw [(e30 g hg1).2.1]; omega) (by rw [z49, (e30 g hg1).2.1]; omega)) ?_
        rw [(e30 g hg1).2.2, h49, ← hκ1 hl]
        first | refine wp_aload_n (pc := 78) dX7_listLevel_78 rfl ?_ | refine wp_aload_nN (pc := 78) dX7_listLevel_78 rfl ?_
        refine wp_getR (pc := 79) dX7_listLevel_79 fl_LevelStoreModel_37 (by first | assumption | exact Fx.ok (by assumption) (by decide)) rfl (by first | assumption | exact Fx.ref (by assumption) rfl) ?_
        refine wp_bipush (pc := 82) (v := 30) dX7_listLevel_82 (by decide) ?_
        refine wp_iload_n (pc := 84) dX7_listLevel_84 rfl ?_
        refine wp_imul (pc := 85) dX7_listLevel_85 ?_
        rw [(e30 t ht).1]
        refine wp_iaload (pc := 86) dX7_listLevel_86 (by first | assumption | exact Fx.ok (by assumption) (by decide)) (in_I (by rw [(e30 t ht).2.1]; omega) (by rw [z49, (e30 t ht).2.1]; omega)) ?_
        rw [(e30 t ht).2.2, h49, ← hκ1 hl]
        refine wp_icmp_le (pc := 87) (tgt := 110) dX7_listLevel_87 (by decide) (fun hc => ?_) (fun hc => ?_)
        · omega
        · skip
          exact nxt _ ⟨rfl, rfl, rfl, rfl, trivial⟩
      · have hl := hc
        first | refine wp_aload_n (pc := 37) dX7_listLevel_37 rfl ?_ | refine wp_aload_nN (pc := 37) dX7_listLevel_37 rfl ?_
        refine wp_getR (pc := 38) dX7_listLevel_38 fl_LevelStoreModel_25 (by first | assumption | exact Fx.ok (by assumption) (by decide)) rfl (by first | assumption | exact Fx.ref (by assumption) rfl) ?_
        first | refine wp_aload_n (pc := 41) dX7_listLevel_41 rfl ?_ | refine wp_aload_nN (pc := 41) dX7_listLevel_41 rfl ?_
        refine wp_getR (pc := 42) dX7_listLevel_42 fl_LevelStoreModel_49 (by first | assumption | exact Fx.ok (by assumption) (by decide)) rfl (by first | assumption | exact Fx.ref (by assumption) rfl) ?_
        refine wp_iload_n (pc := 45) dX7_listLevel_45 rfl ?_
        refine wp_iconst (pc := 46) (v := 1) dX7_listLevel_46 (by decide) ?_
        refine wp_isub (pc := 47) dX7_listLevel_47 ?_
        rw [e1]
        refine wp_iaload (pc := 48) dX7_listLevel_48 (by first | assumption | exact Fx.ok (by assumption) (by decide)) (in_I (by omega) (by rw [z53]; omega)) ?_
        rw [c2, hv]
        refine wp_iaload (pc := 49) dX7_listLevel_49 (by first | assumption | exact Fx.ok (by assumption) (by decide)) (in_I (by omega) (by rw [z45]; omega)) ?_
        rw [cg, h45, ← hκ0 hl]
        first | refine wp_aload_n (pc := 50) dX7_listLevel_50 rfl ?_ | refine wp_aload_nN (pc := 50) dX7_listLevel_50 rfl ?_
        refine wp_getR (pc := 51) dX7_listLevel_51 fl_LevelStoreModel_25 (by first | assumption | exact Fx.ok (by assumption) (by decide)) rfl (by first | assumption | exact Fx.ref (by assumption) rfl) ?_
        refine wp_iload_n (pc := 54) dX7_listLevel_54 rfl ?_
        refine wp_iaload (pc := 55) dX7_listLevel_55 (by first | assumption | exact Fx.ok (by assumption) (by decide)) (in_I (by omega) (by rw [z45]; omega)) ?_
        rw [ct, h45, ← hκ0 hl]
        refine wp_icmp_le (pc := 56) (tgt := 110) dX7_listLevel_56 (by decide) (fun hc => ?_) (fun hc => ?_)
        · omega
        · skip
          refine wp_goto (pc := 59) (tgt := 90) dX7_listLevel_59 (by decide) ?_
          exact nxt _ ⟨rfl, rfl, rfl, rfl, trivial⟩
def kap (I : ab_II) (k : Nat) (f : Nat) : Int32 := if k = 0 then I 45 f else I 49 (30 * f)
theorem mSl.asc (h : mSl σ I SL) {k : Nat} (hk : k < 4) (hs : lsrt σ k) : ∀ (a b f g : Nat), a < b → (SL k)[a]? = some f → (SL k)[b]? = some g → (kap I k f).toInt < (kap I k g).toInt := by
  intro a b f g hab ha hb
  have hl := (h.1 k (Or.inl hk)).1
  have ha' := (List.getElem?_eq_some_iff.mp ha).1
  have hb' := (List.getElem?_eq_some_iff.mp hb).1
  obtain ⟨F, hF⟩ : ∃ F, (σ.FS k)[a]? = some F := ⟨_, List.getElem?_eq_getElem (by omega)⟩
  obtain ⟨G, hG⟩ : ∃ G, (σ.FS k)[b]? = some G := ⟨_, List.getElem?_eq_getElem (by omega)⟩
  obtain ⟨-, -, s1⟩ := (h.1 k (Or.inl hk)).2.2 a f F ha hF
  obtain ⟨-, -, s2⟩ := (h.1 k (Or.inl hk)).2.2 b g G hb hG
  obtain ⟨q1, q2⟩ := hs.2 a b F G hab hF hG
  have n1 := hs.1 F (List.mem_of_getElem? hF)
  have n2 := hs.1 G (List.mem_of_getElem? hG)
  unfold kap
  by_cases h0 : k = 0
  · rw [if_pos h0, if_pos h0, s1.1, s2.1]; exact q1 h0
  · rw [if_neg h0, if_neg h0]
    have w1 := (s1.2.2.2.2.2.at (j := 0) (List.length_pos_iff.mpr n1)).1
    have w2 := (s2.2.2.2.2.2.at (j := 0) (List.length_pos_iff.mpr n2)).1
    rw [Nat.add_zero] at w1 w2
    rw [w1, w2, ← lk_lfn n1, ← lk_lfn n2]
    exact q2 h0
theorem m_ll_loop (hX : Fx n S R) (h : mSl σ I SL) {k : Nat} (hk : k < 4) (hs : lsrt σ k) (post : ab_Po) (hpost : ∀ J, fM I J [53] [18] → lsOK J (SL k) → post none (n, S, R, J)) :
    ∀ (d t : Nat) (y : Int32) (J : ab_II) (L : List (Nat × Value)), 330 = t + d → y = nI t → fM I J [53] [18] → lsOK J ((SL k).filter (fun f => decide (f < t))) → ab_sub L [(0, .ref 39), (1, .int (nI k)), (2, .int y)] → wp 0 0 0 0 MX7_listLevel 7 L [] (n, S, R, J) post := by
  have z44 : (S 44).2 = 330 := hX.len (by decide)
  have t330 : (330 : Int32).toInt = 330 := by decide +kernel
  have hnd := (h.1 k (Or.inl hk)).2.1
  have elv : lvc k = nI k := by unfold lvc; rw [if_neg (by omega)]
  have ek : (nI k).toInt = k := tI_n (by omega)
  intro d
  induction d with
  | zero =>
    intro t y J L ht hy hf hls hL0
    refine wp_loc hL0 ?_
    have ey : y.toInt = t := by rw [hy, tI_n (by omega)]
    refine wp_iload_n (pc := 7) dX7_listLevel_7 rfl ?_
    refine wp_sipush (pc := 8) (v := 330) dX7_listLevel_8 (by decide) ?_
    refine wp_icmp_ge (pc := 11) (tgt := 133) dX7_listLevel_11 (by decide) (fun hc => ?_) (fun hc => ?_)
    · skip
      refine wp_retv (pc := 133) dX7_listLevel_133 rfl ?_
      refine hpost J hf ?_
      rw [List.filter_eq_self.mpr (fun f q => decide_eq_true (by have := (h.mem (Or.inl hk) q).1; omega))] at hls
      exact hls
    · rw [t330] at hc; omega
  | succ d ih =>
    intro t y J L ht hy hf hls hL0
    refine wp_loc hL0 ?_
    subst hy
    have ey : (nI t).toInt = t := tI_n (by omega)
    have cy : (nI t).toNatClampNeg = t := nI_c (by omega)
    have h44 : J 44 = I 44 := hf.1 44 (by simp) (by decide)
    have nxt : ∀ (J : ab_II), fM I J [53] [18] → lsOK J ((SL k).filter (fun f => decide (f < t + 1))) → ∀ L, ab_sub L [(0, .ref 39), (1, .int (nI k)), (2, .int (nI t))] → wp 0 0 0 0 MX7_listLevel 127 L [] (n, S, R, J) post := by
      intro J hf hls L hL
      refine wp_loc hL ?_
      refine wp_iinc (pc := 127) dX7_listLevel_127 rfl (by decide) rfl ?_
      refine wp_goto (pc := 130) (tgt := 7) dX7_listLevel_130 (by decide) ?_
      exact ih (t + 1) _ J _ (by omega) (nI_i1 t) hf hls ⟨rfl, rfl, rfl, trivial⟩
    by_cases hm : t ∈ SL k
    · obtain ⟨a, ha⟩ := List.getElem?_of_mem hm
      have hal := (List.getElem?_eq_some_iff.mp ha).1
      obtain ⟨sp1, sp2⟩ := filt_split hnd ha
      have hlv := ((h.iff (Or.inl hk)).mp hm).2
      rw [sp1] at hls
      have e18 := hls.1
      rw [List.length_append] at e18
      have hA : ∀ f ∈ ((SL k).take a).filter (fun f => decide (f < t)), f < 330 ∧ (kap I k f).toInt < (kap I k t).toInt := by
        intro f hf'
        have hf2 := (List.mem_filter.mp hf').1
        obtain ⟨i, hi⟩ := List.getElem?_of_mem hf2
        rw [List.getElem?_take] at hi
        split at hi
        · exact ⟨(h.mem (Or.inl hk) (List.mem_of_getElem? hi)).1, h.asc hk hs i a f t (by omega) hi ha⟩
        · cases hi
      have hB : ∀ f ∈ ((SL k).drop (a + 1)).filter (fun f => decide (f < t)), f < 330 ∧ (kap I k t).toInt < (kap I k f).toInt := by
        intro f hf'
        have hf2 := (List.mem_filter.mp hf').1
        obtain ⟨i, hi⟩ := List.getElem?_of_mem hf2
        rw [List.getElem?_drop] at hi
        exact ⟨(h.mem (Or.inl hk) (List.mem_of_getElem? hi)).1, h.asc hk hs a _ t f (by omega) ha hi⟩
      have hlen : (((SL k).take a).filter (fun f => decide (f < t))).length + (((SL k).drop (a + 1)).filter (fun f => decide (f < t))).length < 330 := by
        have h1 := List.length_filter_le (fun f => decide (f < t)) ((SL k).take a)
        have h2 := List.length_filter_le (fun f => decide (f < t)) ((SL k).drop (a + 1))
        have h3 : (SL k).length ≤ 330 := by
          have := List.Nodup.length_le_of_subset (l₂ := List.range 330) hnd (fun f q => List.mem_range.mpr (h.mem (Or.inl hk) q).1)
          rw [List.length_range] at this
          exact this
        rw [List.length_take] at h1
        rw [List.length_drop] at h2
        omega
      generalize ((SL k).take a).filter (fun f => decide (f < t)) = A at *
      generalize ((SL k).drop (a + 1)).filter (fun f => decide (f < t)) = B at *
      refine wp_iload_n (pc := 7) dX7_listLevel_7 rfl ?_
      refine wp_sipush (pc := 8) (v := 330) dX7_listLevel_8 (by decide) ?_
      refine wp_icmp_ge (pc := 11) (tgt := 133) dX7_listLevel_11 (by decide) (fun hc => ?_) (fun hc => ?_)
      · rw [t330] at hc; omega
      · skip
        first | refine wp_aload_n (pc := 14) dX7_listLevel_14 rfl ?_ | refine wp_aload_nN (pc := 14) dX7_listLevel_14 rfl ?_
        refine wp_getR (pc := 15) dX7_listLevel_15 fl_LevelStoreModel_22 (by first | assumption | exact Fx.ok (by assumption) (by decide)) rfl (by first | assumption | exact Fx.ref (by assumption) rfl) ?_
        refine wp_iload_n (pc := 18) dX7_listLevel_18 rfl ?_
        refine wp_iaload (pc := 19) dX7_listLevel_19 (by first | assumption | exact Fx.ok (by assumption) (by decide)) (in_I (by omega) (by rw [z44]; omega)) ?_
        rw [cy, h44, hlv, elv]
        refine wp_iload_n (pc := 20) dX7_listLevel_20 rfl ?_
        refine wp_icmp_ne (pc := 21) (tgt := 127) dX7_listLevel_21 (by decide) (fun hc => ?_) (fun hc => ?_)
        · exact absurd rfl hc
        · skip
          first | refine wp_aload_n (pc := 24) dX7_listLevel_24 rfl ?_ | refine wp_aload_nN (pc := 24) dX7_listLevel_24 rfl ?_
          refine wp_getI (pc := 25) dX7_listLevel_25 fl_LevelStoreModel_137 (by first | assumption | exact Fx.ok (by assumption) (by decide)) rfl ?_
          rw [e18]
          refine wp_istore_n (pc := 28) dX7_listLevel_28 (by decide) rfl ?_
          exact m_ll_in hX (nI k) (kap I k) (fun q f => by unfold kap; rw [if_pos (by omega)]) (fun q f => by unfold kap; rw [if_neg (by omega)]) (by omega) A B hA hB hlen post (fun J' hf' hl' L' hL' => nxt J' hf' (by rw [sp2]; exact hl') L' hL') B.length _ J _ (Nat.le_refl _) rfl hf e18 (fun i f q1 q2 => hls.2 i f q2) (fun i f q1 q2 => by have := (List.getElem?_eq_some_iff.mp q2).1; rw [List.length_append] at this; omega) ⟨rfl, rfl, rfl, rfl, trivial⟩
    · have hne : I 44 t ≠ nI k := fun q => hm ((h.iff (Or.inl hk)).mpr ⟨by omega, q.trans elv.symm⟩)
      have efl : (SL k).filter (fun f => decide (f < t + 1)) = (SL k).filter (fun f => decide (f < t)) := List.filter_congr (fun f q => by have : f ≠ t := fun e => hm (e ▸ q); rw [decide_eq_decide]; omega)
      refine wp_iload_n (pc := 7) dX7_listLevel_7 rfl ?_
      refine wp_sipush (pc := 8) (v := 330) dX7_listLevel_8 (by decide) ?_
      refine wp_icmp_ge (pc := 11) (tgt := 133) dX7_listLevel_11 (by decide) (fun hc => ?_) (fun hc => ?_)
      · rw [t330] at hc; omega
      · skip
        first | refine wp_aload_n (pc := 14) dX7_listLevel_14 rfl ?_ | refine wp_aload_nN (pc := 14) dX7_listLevel_14 rfl ?_
        refine wp_getR (pc := 15) dX7_listLevel_15 fl_LevelStoreModel_22 (by first | assumption | exact Fx.ok (by assumption) (by decide)) rfl (by first | assumption | exact Fx.ref (by assumption) rfl) ?_
        refine wp_iload_n (pc := 18) dX7_listLevel_18 rfl ?_
        refine wp_iaload (pc := 19) dX7_listLevel_19 (by first | assumption | exact Fx.ok (by assumption) (by decide)) (in_I (by omega) (by rw [z44]; omega)) ?_
        rw [cy, h44]
        refine wp_iload_n (pc := 20) dX7_listLevel_20 rfl ?_
        refine wp_icmp_ne (pc := 21) (tgt := 127) dX7_listLevel_21 (by decide) (fun hc => ?_) (fun hc => ?_)
        · skip
          exact nxt J hf (by rw [efl]; exact hls) _ ⟨rfl, rfl, rfl, trivial⟩
        · exact absurd (tI_eq hc) hne
theorem m_listLevel (hX : Fx n S R) (h : mSl σ I SL) {k : Nat} (hk : k < 4) (hs : lsrt σ k) : wp 0 0 0 0 MX7_listLevel 0 [(0, .ref 39), (1, .int (nI k))] [] (n, S, R, I) (fun v hh => v = none ∧ ∃ J, hh = (n, S, R, J) ∧ fM I J [53] [18] ∧ lsOK J (SL k)) := by
  first | refine wp_aload_n (pc := 0) dX7_listLevel_0 rfl ?_ | refine wp_aload_nN (pc := 0) dX7_listLevel_0 rfl ?_
  refine wp_iconst (pc := 1) (v := 0) dX7_listLevel_1 (by decide) ?_
  refine wp_putI (pc := 2) dX7_listLevel_2 fl_LevelStoreModel_137 (by first | assumption | exact Fx.ok (by assumption) (by decide)) rfl rfl (Or.inl rfl) ?_
  refine wp_iconst (pc := 5) (v := 0) dX7_listLevel_5 (by decide) ?_
  refine wp_istore_n (pc := 6) dX7_listLevel_6 (by decide) rfl ?_
  refine m_ll_loop hX h hk hs _ (fun J hf hl => ⟨rfl, J, rfl, hf, hl⟩) 330 0 _ _ _ rfl rfl (fM.uf (by simp)) ?_ ⟨rfl, rfl, rfl, trivial⟩
  rw [List.filter_eq_nil_iff.mpr (fun f _ => by simp)]
  exact ⟨ab_u2_s _ _ _ _, fun i f q => by simp at q⟩
end M5
