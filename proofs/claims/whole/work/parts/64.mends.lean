/-! THE REFERENCE: a file ends -/
section M14
variable {σ : St} {n : Nat} {S : ab_SH} {R : ab_RR} {I : ab_II} {SL : Nat → List Nat}
/-- entries are laid down from a place on -/
def laid (I J : ab_II) (off : Nat) (es : List En) : Prop := (∀ (j : Nat) (e : En), es[j]? = some e → J 49 (off + j) = e.1 ∧ J 50 (off + j) = e.2.1 ∧ J 51 (off + j) = e.2.2) ∧ ∀ i, (i < off ∨ off + es.length ≤ i) → J 49 i = I 49 i ∧ J 50 i = I 50 i ∧ J 51 i = I 51 i
theorem laid.rf {off : Nat} : laid I I off [] := ⟨fun j e q => by simp at q, fun i _ => ⟨rfl, rfl, rfl⟩⟩
theorem laid.push {J : ab_II} {off : Nat} {es : List En} {a b c : Int32} (h : laid I J off es) : laid I (ab_u2 (ab_u2 (ab_u2 J 49 (off + es.length) a) 50 (off + es.length) b) 51 (off + es.length) c) off (es ++ [(a, b, c)]) := by
  have e1 : ∀ i, i ≠ off + es.length → (ab_u2 (ab_u2 (ab_u2 J 49 (off + es.length) a) 50 (off + es.length) b) 51 (off + es.length) c) 49 i = J 49 i ∧ (ab_u2 (ab_u2 (ab_u2 J 49 (off + es.length) a) 50 (off + es.length) b) 51 (off + es.length) c) 50 i = J 50 i ∧ (ab_u2 (ab_u2 (ab_u2 J 49 (off + es.length) a) 50 (off + es.length) b) 51 (off + es.length) c) 51 i = J 51 i := fun i hi => by
    rw [ab_u2_n _ _ (Or.inr hi), ab_u2_n _ _ (Or.inr hi), ab_u2_n _ _ (Or.inr hi), ab_u2_n _ _ (Or.inr hi), ab_u2_n _ _ (Or.inr hi), ab_u2_n _ _ (Or.inr hi), ab_u2_n _ _ (Or.inr hi), ab_u2_n _ _ (Or.inr hi), ab_u2_n _ _ (Or.inr hi)]
    exact ⟨rfl, rfl, rfl⟩
  refine ⟨fun j e q => ?_, fun i hi => ?_⟩
  · by_cases hj : j < es.length
    · rw [List.getElem?_append_left hj] at q
      rw [(e1 (off + j) (by omega)).1, (e1 (off + j) (by omega)).2.1, (e1 (off + j) (by omega)).2.2]
      exact h.1 j e q
    · have hl := (List.getElem?_eq_some_iff.mp q).1
      rw [List.length_append, List.length_singleton] at hl
      have hjj : j = es.length := by omega
      subst hjj
      rw [List.getElem?_append_right (Nat.le_refl _)] at q
      simp at q
      rw [← q, ab_u2_n _ _ (Or.inl (by decide)), ab_u2_n _ _ (Or.inl (by decide)), ab_u2_s, ab_u2_n _ _ (Or.inl (by decide)), ab_u2_s, ab_u2_s]
      exact ⟨rfl, rfl, rfl⟩
  · rw [List.length_append, List.length_singleton] at hi
    rw [(e1 i (by omega)).1, (e1 i (by omega)).2.1, (e1 i (by omega)).2.2]
    exact h.2 i (by omega)
theorem m_ends_l1 (hX : Fx n S R) (x1 : Int32) {f : Nat} (hf : f < 330) {I0 : ab_II} {es : List En} (h24 : es.length ≤ 24) (hb : I0 39 32 = nI es.length) (ha : arr3 I0 59 60 61 0 es) (post : ab_Po) (hpost : ∀ J, fM I0 J [49, 50, 51] [] → laid I0 J (30 * f) es → ∀ L, ab_sub L [(0, .ref 39), (1, .int x1), (2, .int (nI f))] → wp 2 44 0 0 MX7_ends 167 L [] (n, S, R, J) post) :
    ∀ (d t : Nat) (y : Int32) (J : ab_II) (L : List (Nat × Value)), es.length = t + d → y = nI t → fM I0 J [49, 50, 51] [] → laid I0 J (30 * f) (es.take t) → ab_sub L [(0, .ref 39), (1, .int x1), (2, .int (nI f)), (3, .int y)] → wp 2 44 0 0 MX7_ends 102 L [] (n, S, R, J) post := by
  have z49 : (S 49).2 = 9900 := hX.len (by decide)
  have z50 : (S 50).2 = 9900 := hX.len (by decide)
  have z51 : (S 51).2 = 9900 := hX.len (by decide)
  have z59 : (S 59).2 = 40 := hX.len (by decide)
  have z60 : (S 60).2 = 40 := hX.len (by decide)
  have z61 : (S 61).2 = 40 := hX.len (by decide)
  intro d
  induction d with
  | zero =>
    intro t y J L ht hy hfm hla hL0
    refine wp_loc hL0 ?_
    have ey : y.toInt = t := by rw [hy, tI_n (by omega)]
    have e32 : (J 39 32).toInt = es.length := by rw [hfm.2 32 (by simp), hb, tI_n (by omega)]
    rw [List.take_of_length_le (by omega)] at hla
    refine wp_iload_n (pc := 102) dX7_ends_102 rfl ?_
    first | refine wp_aload_n (pc := 103) dX7_ends_103 rfl ?_ | refine wp_aload_nN (pc := 103) dX7_ends_103 rfl ?_
    refine wp_getI (pc := 104) dX7_ends_104 fl_LevelStoreModel_159 (by first | assumption | exact Fx.ok (by assumption) (by decide)) rfl ?_
    refine wp_icmp_ge (pc := 107) (tgt := 167) dX7_ends_107 (by decide) (fun hc => ?_) (fun hc => ?_)
    · skip
      exact hpost J hfm hla _ ⟨rfl, rfl, rfl, trivial⟩
    · omega
  | succ d ih =>
    intro t y J L ht hy hfm hla hL0
    refine wp_loc hL0 ?_
    have ey : y.toInt = t := by rw [hy, tI_n (by omega)]
    have cy : y.toNatClampNeg = t := by rw [tI_c]; omega
    have e32 : (J 39 32).toInt = es.length := by rw [hfm.2 32 (by simp), hb, tI_n (by omega)]
    have ei : nI (30 * f) + y = nI (30 * f + t) := by rw [hy]; exact nI_add _ _
    have ei2 : (nI (30 * f + t)).toInt = ((30 * f + t : Nat) : Int) := tI_n (by omega)
    have ci : (nI (30 * f + t)).toNatClampNeg = 30 * f + t := nI_c (by omega)
    obtain ⟨e, eg⟩ : ∃ e, es[t]? = some e := ⟨_, List.getElem?_eq_getElem (by omega)⟩
    obtain ⟨a1, a2, a3⟩ := ha t e eg
    rw [Nat.zero_add] at a1 a2 a3
    refine wp_iload_n (pc := 102) dX7_ends_102 rfl ?_
    first | refine wp_aload_n (pc := 103) dX7_ends_103 rfl ?_ | refine wp_aload_nN (pc := 103) dX7_ends_103 rfl ?_
    refine wp_getI (pc := 104) dX7_ends_104 fl_LevelStoreModel_159 (by first | assumption | exact Fx.ok (by assumption) (by decide)) rfl ?_
    refine wp_icmp_ge (pc := 107) (tgt := 167) dX7_ends_107 (by decide) (fun hc => ?_) (fun hc => ?_)
    · omega
    · skip
      first | refine wp_aload_n (pc := 110) dX7_ends_110 rfl ?_ | refine wp_aload_nN (pc := 110) dX7_ends_110 rfl ?_
      refine wp_getR (pc := 111) dX7_ends_111 fl_LevelStoreModel_37 (by first | assumption | exact Fx.ok (by assumption) (by decide)) rfl (by first | assumption | exact Fx.ref (by assumption) rfl) ?_
      refine wp_bipush (pc := 114) (v := 30) dX7_ends_114 (by decide) ?_
      refine wp_iload_n (pc := 116) dX7_ends_116 rfl ?_
      refine wp_imul (pc := 117) dX7_ends_117 ?_
      rw [i30]
      refine wp_iload_n (pc := 118) dX7_ends_118 rfl ?_
      refine wp_iadd (pc := 119) dX7_ends_119 ?_
      rw [ei]
      first | refine wp_aload_n (pc := 120) dX7_ends_120 rfl ?_ | refine wp_aload_nN (pc := 120) dX7_ends_120 rfl ?_
      refine wp_getR (pc := 121) dX7_ends_121 fl_LevelStoreModel_68 (by first | assumption | exact Fx.ok (by assumption) (by decide)) rfl (by first | assumption | exact Fx.ref (by assumption) rfl) ?_
      refine wp_iload_n (pc := 124) dX7_ends_124 rfl ?_
      refine wp_iaload (pc := 125) dX7_ends_125 (by first | assumption | exact Fx.ok (by assumption) (by decide)) (in_I (by omega) (by rw [z59]; omega)) ?_
      rw [cy, hfm.1 59 (by simp) (by decide), a1]
      refine wp_iastore (pc := 126) dX7_ends_126 (by first | assumption | exact Fx.ok (by assumption) (by decide)) (in_I (by omega) (by rw [z49]; omega)) ?_
      first | refine wp_aload_n (pc := 127) dX7_ends_127 rfl ?_ | refine wp_aload_nN (pc := 127) dX7_ends_127 rfl ?_
      refine wp_getR (pc := 128) dX7_ends_128 fl_LevelStoreModel_40 (by first | assumption | exact Fx.ok (by assumption) (by decide)) rfl (by first | assumption | exact Fx.ref (by assumption) rfl) ?_
      refine wp_bipush (pc := 131) (v := 30) dX7_ends_131 (by decide) ?_
      refine wp_iload_n (pc := 133) dX7_ends_133 rfl ?_
      refine wp_imul (pc := 134) dX7_ends_134 ?_
      rw [i30]
      refine wp_iload_n (pc := 135) dX7_ends_135 rfl ?_
      refine wp_iadd (pc := 136) dX7_ends_136 ?_
      rw [ei]
      first | refine wp_aload_n (pc := 137) dX7_ends_137 rfl ?_ | refine wp_aload_nN (pc := 137) dX7_ends_137 rfl ?_
      refine wp_getR (pc := 138) dX7_ends_138 fl_LevelStoreModel_71 (by first | assumption | exact Fx.ok (by assumption) (by decide)) rfl (by first | assumption | exact Fx.ref (by assumption) rfl) ?_
      refine wp_iload_n (pc := 141) dX7_ends_141 rfl ?_
      refine wp_iaload (pc := 142) dX7_ends_142 (by first | assumption | exact Fx.ok (by assumption) (by decide)) (in_I (by omega) (by rw [z60]; omega)) ?_
      rw [cy, ab_u2_r _ _ (by decide), hfm.1 60 (by simp) (by decide), a2]
      refine wp_iastore (pc := 143) dX7_ends_143 (by first | assumption | exact Fx.ok (by assumption) (by decide)) (in_I (by omega) (by rw [z50]; omega)) ?_
      first | refine wp_aload_n (pc := 144) dX7_ends_144 rfl ?_ | refine wp_aload_nN (pc := 144) dX7_ends_144 rfl ?_
      refine wp_getR (pc := 145) dX7_ends_145 fl_LevelStoreModel_43 (by first | assumption | exact Fx.ok (by assumption) (by decide)) rfl (by first | assumption | exact Fx.ref (by assumption) rfl) ?_
      refine wp_bipush (pc := 148) (v := 30) dX7_ends_148 (by decide) ?_
      refine wp_iload_n (pc := 150) dX7_ends_150 rfl ?_
      refine wp_imul (pc := 151) dX7_ends_151 ?_
      rw [i30]
      refine wp_iload_n (pc := 152) dX7_ends_152 rfl ?_
      refine wp_iadd (pc := 153) dX7_ends_153 ?_
      rw [ei]
      first | refine wp_aload_n (pc := 154) dX7_ends_154 rfl ?_ | refine wp_aload_nN (pc := 154) dX7_ends_154 rfl ?_
      refine wp_getR (pc := 155) dX7_ends_155 fl_LevelStoreModel_74 (by first | assumption | exact Fx.ok (by assumption) (by decide)) rfl (by first | assumption | exact Fx.ref (by assumption) rfl) ?_
      refine wp_iload_n (pc := 158) dX7_ends_158 rfl ?_
      refine wp_iaload (pc := 159) dX7_ends_159 (by first | assumption | exact Fx.ok (by assumption) (by decide)) (in_I (by omega) (by rw [z61]; omega)) ?_
      rw [cy, ab_u2_n _ _ (Or.inl (by decide)), ab_u2_n _ _ (Or.inl (by decide)), hfm.1 61 (by simp) (by decide), a3]
      refine wp_iastore (pc := 160) dX7_ends_160 (by first | assumption | exact Fx.ok (by assumption) (by decide)) (in_I (by omega) (by rw [z51]; omega)) ?_
      rw [ci]
      refine wp_iinc (pc := 161) dX7_ends_161 rfl (by decide) rfl ?_
      refine wp_goto (pc := 164) (tgt := 102) dX7_ends_164 (by decide) ?_
      refine ih (t + 1) _ _ _ (by omega) (by rw [hy]; exact nI_i1 t) (hfm.tr1 (((fM.ua (by simp) (by decide)).tr1 (fM.ua (by simp) (by decide))).tr1 (fM.ua (by simp) (by decide)))) ?_ ⟨rfl, rfl, rfl, rfl, trivial⟩
      have := hla.push (a := e.1) (b := e.2.1) (c := e.2.2)
      rw [List.length_take, show min t es.length = t by omega] at this
      rw [td_succ eg]
      exact this
theorem m_ends_l2 (hX : Fx n S R) {f p : Nat} {I0 : ab_II} {cl : List Nat} (hp : p + cl.length ≤ 1500) (h6 : cl.length ≤ 600) (hcd : cdM I0 cl) (post : ab_Po) (hpost : ∀ J, fM I0 J [52] [] → J 52 = lay21 (I0 52) p cl → ∀ L, ab_sub L [(0, .ref 39), (2, .int (nI f))] → wp 2 44 0 0 MX7_ends 197 L [] (n, S, R, J) post) :
    ∀ (d t : Nat) (y : Int32) (J : ab_II) (L : List (Nat × Value)), cl.length = t + d → y = nI t → fM I0 J [52] [] → J 52 = lay21 (I0 52) p (cl.take t) → ab_sub L [(0, .ref 39), (1, .int (nI p)), (2, .int (nI f)), (3, .int y)] → wp 2 44 0 0 MX7_ends 169 L [] (n, S, R, J) post := by
  have z52 : (S 52).2 = 1500 := hX.len (by decide)
  have z62 : (S 62).2 = 600 := hX.len (by decide)
  intro d
  induction d with
  | zero =>
    intro t y J L ht hy hfm hla hL0
    refine wp_loc hL0 ?_
    have ey : y.toInt = t := by rw [hy, tI_n (by omega)]
    have e36 : (J 39 36).toInt = cl.length := by rw [hfm.2 36 (by simp), hcd.1, tI_n (by omega)]
    rw [List.take_of_length_le (by omega)] at hla
    refine wp_iload_n (pc := 169) dX7_ends_169 rfl ?_
    first | refine wp_aload_n (pc := 170) dX7_ends_170 rfl ?_ | refine wp_aload_nN (pc := 170) dX7_ends_170 rfl ?_
    refine wp_getI (pc := 171) dX7_ends_171 fl_LevelStoreModel_189 (by first | assumption | exact Fx.ok (by assumption) (by decide)) rfl ?_
    refine wp_icmp_ge (pc := 174) (tgt := 197) dX7_ends_174 (by decide) (fun hc => ?_) (fun hc => ?_)
    · skip
      exact hpost J hfm hla _ ⟨rfl, rfl, trivial⟩
    · omega
  | succ d ih =>
    intro t y J L ht hy hfm hla hL0
    refine wp_loc hL0 ?_
    have ey : y.toInt = t := by rw [hy, tI_n (by omega)]
    have cy : y.toNatClampNeg = t := by rw [tI_c]; omega
    have e36 : (J 39 36).toInt = cl.length := by rw [hfm.2 36 (by simp), hcd.1, tI_n (by omega)]
    have ei : nI p + y = nI (p + t) := by rw [hy]; exact nI_add _ _
    have ei2 : (nI (p + t)).toInt = ((p + t : Nat) : Int) := tI_n (by omega)
    have ci : (nI (p + t)).toNatClampNeg = p + t := nI_c (by omega)
    obtain ⟨b, eg⟩ : ∃ b, cl[t]? = some b := ⟨_, List.getElem?_eq_getElem (by omega)⟩
    refine wp_iload_n (pc := 169) dX7_ends_169 rfl ?_
    first | refine wp_aload_n (pc := 170) dX7_ends_170 rfl ?_ | refine wp_aload_nN (pc := 170) dX7_ends_170 rfl ?_
    refine wp_getI (pc := 171) dX7_ends_171 fl_LevelStoreModel_189 (by first | assumption | exact Fx.ok (by assumption) (by decide)) rfl ?_
    refine wp_icmp_ge (pc := 174) (tgt := 197) dX7_ends_174 (by decide) (fun hc => ?_) (fun hc => ?_)
    · omega
    · skip
      first | refine wp_aload_n (pc := 177) dX7_ends_177 rfl ?_ | refine wp_aload_nN (pc := 177) dX7_ends_177 rfl ?_
      refine wp_getR (pc := 178) dX7_ends_178 fl_LevelStoreModel_46 (by first | assumption | exact Fx.ok (by assumption) (by decide)) rfl (by first | assumption | exact Fx.ref (by assumption) rfl) ?_
      refine wp_iload_n (pc := 181) dX7_ends_181 rfl ?_
      refine wp_iload_n (pc := 182) dX7_ends_182 rfl ?_
      refine wp_iadd (pc := 183) dX7_ends_183 ?_
      rw [ei]
      first | refine wp_aload_n (pc := 184) dX7_ends_184 rfl ?_ | refine wp_aload_nN (pc := 184) dX7_ends_184 rfl ?_
      refine wp_getR (pc := 185) dX7_ends_185 fl_LevelStoreModel_77 (by first | assumption | exact Fx.ok (by assumption) (by decide)) rfl (by first | assumption | exact Fx.ref (by assumption) rfl) ?_
      refine wp_iload_n (pc := 188) dX7_ends_188 rfl ?_
      refine wp_iaload (pc := 189) dX7_ends_189 (by first | assumption | exact Fx.ok (by assumption) (by decide)) (in_I (by omega) (by rw [z62]; omega)) ?_
      rw [cy, hfm.1 62 (by simp) (by decide), hcd.2 t b eg]
      refine wp_iastore (pc := 190) dX7_ends_190 (by first | assumption | exact Fx.ok (by assumption) (by decide)) (in_I (by omega) (by rw [z52]; omega)) ?_
      rw [ci]
      refine wp_iinc (pc := 191) dX7_ends_191 rfl (by decide) rfl ?_
      refine wp_goto (pc := 194) (tgt := 169) dX7_ends_194 (by decide) ?_
      refine ih (t + 1) _ _ _ (by omega) (by rw [hy]; exact nI_i1 t) (hfm.tr1 (fM.ua (by simp) (by decide))) ?_ ⟨rfl, rfl, rfl, rfl, trivial⟩
      have hl1 : (cl.take t).length = t := by rw [List.length_take]; omega
      have hl2 : (cl.take (t + 1)).length = t + 1 := by rw [List.length_take]; omega
      funext j
      by_cases q : j = p + t
      · rw [q, ab_u2_s, lay21, if_pos (by omega), show p + t - p = t by omega, List.getD_eq_getElem?_getD, List.getElem?_take, if_pos (by omega), eg]; rfl
      · rw [ab_u2_n _ _ (Or.inr q), hla, lay21, lay21, hl1, hl2]
        by_cases q2 : p ≤ j ∧ j < p + t
        · rw [if_pos q2, if_pos (by omega), List.getD_eq_getElem?_getD, List.getD_eq_getElem?_getD, List.getElem?_take, List.getElem?_take, if_pos (by omega), if_pos (by omega)]
        · rw [if_neg q2, if_neg (by omega)]
theorem m_ends_free (hX : Fx n S R) (x1 : Int32) {f0 : Nat} (hf0 : f0 < 330) (hfr : (I 44 f0).toInt < 0) (post : ab_Po) (hpost : ∀ f, f < 330 → (I 44 f).toInt < 0 → ∀ L, ab_sub L [(0, .ref 39), (1, .int x1), (2, .int (nI f))] → wp 2 44 0 0 MX7_ends 45 L [] (n, S, R, I) post) :
    ∀ (d t : Nat) (y : Int32) (L : List (Nat × Value)), f0 = t + d → y = nI t → ab_sub L [(0, .ref 39), (1, .int x1), (2, .int y)] → wp 2 44 0 0 MX7_ends 30 L [] (n, S, R, I) post := by
  have z44 : (S 44).2 = 330 := hX.len (by decide)
  intro d
  induction d with
  | zero =>
    intro t y L ht hy hL0
    refine wp_loc hL0 ?_
    subst hy
    have ey : (nI t).toInt = t := tI_n (by omega)
    have cy : (nI t).toNatClampNeg = t := nI_c (by omega)
    have et : t = f0 := by omega
    first | refine wp_aload_n (pc := 30) dX7_ends_30 rfl ?_ | refine wp_aload_nN (pc := 30) dX7_ends_30 rfl ?_
    refine wp_getR (pc := 31) dX7_ends_31 fl_LevelStoreModel_22 (by first | assumption | exact Fx.ok (by assumption) (by decide)) rfl (by first | assumption | exact Fx.ref (by assumption) rfl) ?_
    refine wp_iload_n (pc := 34) dX7_ends_34 rfl ?_
    refine wp_iaload (pc := 35) dX7_ends_35 (by first | assumption | exact Fx.ok (by assumption) (by decide)) (in_I (by omega) (by rw [z44]; omega)) ?_
    rw [cy]
    refine wp_if_lt (pc := 36) (tgt := 45) dX7_ends_36 (by decide) (fun hc => ?_) (fun hc => ?_)
    · skip
      exact hpost t (by omega) hc _ ⟨rfl, rfl, rfl, trivial⟩
    · rw [et] at hc; omega
  | succ d ih =>
    intro t y L ht hy hL0
    refine wp_loc hL0 ?_
    subst hy
    have ey : (nI t).toInt = t := tI_n (by omega)
    have cy : (nI t).toNatClampNeg = t := nI_c (by omega)
    first | refine wp_aload_n (pc := 30) dX7_ends_30 rfl ?_ | refine wp_aload_nN (pc := 30) dX7_ends_30 rfl ?_
    refine wp_getR (pc := 31) dX7_ends_31 fl_LevelStoreModel_22 (by first | assumption | exact Fx.ok (by assumption) (by decide)) rfl (by first | assumption | exact Fx.ref (by assumption) rfl) ?_
    refine wp_iload_n (pc := 34) dX7_ends_34 rfl ?_
    refine wp_iaload (pc := 35) dX7_ends_35 (by first | assumption | exact Fx.ok (by assumption) (by decide)) (in_I (by omega) (by rw [z44]; omega)) ?_
    rw [cy]
    refine wp_if_lt (pc := 36) (tgt := 45) dX7_ends_36 (by decide) (fun hc => ?_) (fun hc => ?_)
    · skip
      exact hpost t (by omega) hc _ ⟨rfl, rfl, rfl, trivial⟩
    · skip
      refine wp_iinc (pc := 39) dX7_ends_39 rfl (by decide) rfl ?_
      refine wp_goto (pc := 42) (tgt := 30) dX7_ends_42 (by decide) ?_
      exact ih (t + 1) _ _ (by omega) (nI_i1 t) ⟨rfl, rfl, rfl, trivial⟩
/-- the new file is in its slot -/
theorem RMc.ends (h : RMc σ I SL) (hj : σ.job = true) (ht : σ.tgt ≤ 3) {f p : Nat} (hf : f < 330) (hfr : (I 44 f).toInt < 0) (h24 : σ.mak.length ≤ 24) {J : ab_II} (hk : ∀ j, (j < 39 ∨ (39 < j ∧ j < 44) ∨ j = 53 ∨ j = 54 ∨ j = 55 ∨ j = 56 ∨ j = 58) → J j = I j) (hK : ∀ k, k ≠ 16 → k ≠ 30 → k ≠ 32 → k ≠ 36 → J 39 k = I 39 k) (h44 : ∀ g, J 44 g = if g = f then 9 else I 44 g) (h45 : ∀ g, J 45 g = if g = f then I 39 16 else I 45 g) (h46 : ∀ g, J 46 g = if g = f then nI p else I 46 g) (h47 : ∀ g, J 47 g = if g = f then nI (enc σ.mak).length else I 47 g) (h48 : ∀ g, J 48 g = if g = f then nI σ.mak.length else I 48 g) (hla : laid I J (30 * f) σ.mak) (h52 : J 52 = lay21 (I 52) p (enc σ.mak)) (h57 : ∀ g, J 57 g = if g = f then 0 else I 57 g) (h16 : J 39 16 = I 39 16 + 1) (h30 : J 39 30 = I 39 30 + 1) (h32 : J 39 32 = 0) :
    RMc ((σ.F (va_up σ.FS 5 (σ.FS 5 ++ [(nI σ.nf, nI p, nI (enc σ.mak).length, σ.mak)])) (lay21 σ.B p (enc σ.mak)) (σ.nf + 1)).J σ.don []) J (va_up SL 5 (SL 5 ++ [f])) := by
  obtain ⟨c1, c2, c3, c4, c5⟩ := h
  have hnf : ∀ k, lvk k → f ∉ SL k := fun k hk hm => by
    have := (c3.mem hk hm).2.1
    have := lvc_pos hk
    rw [‹I 44 f = lvc k›] at hfr
    omega
  have old : ∀ (g : Nat) (F : FA), g ≠ f → slOK I g F → slOK J g F := by
    intro g F hg hs
    obtain ⟨s1, s2, s3, s4, s5, s6⟩ := hs
    refine ⟨by rw [h45, if_neg hg]; exact s1, by rw [h46, if_neg hg]; exact s2, by rw [h47, if_neg hg]; exact s3, by rw [h48, if_neg hg]; exact s4, s5, fun j e q => ?_⟩
    have hjl := (List.getElem?_eq_some_iff.mp q).1
    have hr := hla.2 (30 * g + j) (by omega)
    rw [hr.1, hr.2.1, hr.2.2]
    exact s6 j e q
  refine ⟨⟨by rw [hK 1 (by decide) (by decide) (by decide) (by decide)]; exact c1.1, c1.2.keep (hk _ (by decide)) (hk _ (by decide)) (hk _ (by decide))⟩, ⟨by rw [hK 2 (by decide) (by decide) (by decide) (by decide)]; exact c2.1, by rw [hK 6 (by decide) (by decide) (by decide) (by decide)]; exact c2.2.1, fun k q => by rw [hk 43 (by decide)]; exact c2.2.2 k q⟩, ⟨fun k hkk => ?_, fun g hg => ?_⟩, ⟨by rw [h16, c4.1]; exact nI_1 _, fun j q => ?_⟩, ⟨by rw [hK 20 (by decide) (by decide) (by decide) (by decide)]; exact c5.1, ?_, fun _ => ?_⟩⟩
  · show (va_up SL 5 (SL 5 ++ [f]) k).length = (va_up σ.FS 5 _ k).length ∧ (va_up SL 5 (SL 5 ++ [f]) k).Nodup ∧ ∀ (a g : Nat) (F : FA), (va_up SL 5 (SL 5 ++ [f]) k)[a]? = some g → (va_up σ.FS 5 _ k)[a]? = some F → _
    by_cases h5 : k = 5
    · subst h5
      rw [up_at, up_at]
      have l5 := (c3.1 5 hkk).1
      refine ⟨by rw [List.length_append, List.length_append, l5]; rfl, ?_, fun a g F q1 q2 => ?_⟩
      · unfold List.Nodup
        rw [List.pairwise_append]
        refine ⟨(c3.1 5 hkk).2.1, List.pairwise_singleton _ _, fun x hx y hy => ?_⟩
        rw [List.mem_singleton.mp hy]
        exact fun e => hnf 5 hkk (e ▸ hx)
      · by_cases ha : a < (SL 5).length
        · rw [List.getElem?_append_left ha] at q1
          rw [List.getElem?_append_left (by omega)] at q2
          obtain ⟨g1, g2, g3⟩ := (c3.1 5 hkk).2.2 a g F q1 q2
          have hgf : g ≠ f := fun e => hnf 5 hkk (e ▸ List.mem_of_getElem? q1)
          exact ⟨g1, by rw [h44, if_neg hgf]; exact g2, old g F hgf g3⟩
        · have hal := (List.getElem?_eq_some_iff.mp q1).1
          rw [List.length_append, List.length_singleton] at hal
          have haa : a = (SL 5).length := by omega
          subst haa
          rw [List.getElem?_append_right (Nat.le_refl _)] at q1
          rw [List.getElem?_append_right (by omega), l5, Nat.sub_self] at q2
          simp at q1 q2
          subst q1
          subst q2
          exact ⟨hf, by rw [h44, if_pos rfl]; rfl, by rw [h45, if_pos rfl]; exact c4.1, by rw [h46, if_pos rfl], by rw [h47, if_pos rfl], by rw [h48, if_pos rfl], h24, hla.1⟩
    · rw [up_ne h5, up_ne h5]
      refine ⟨(c3.1 k hkk).1, (c3.1 k hkk).2.1, fun a g F q1 q2 => ?_⟩
      obtain ⟨g1, g2, g3⟩ := (c3.1 k hkk).2.2 a g F q1 q2
      have hgf : g ≠ f := fun e => hnf k hkk (e ▸ List.mem_of_getElem? q1)
      exact ⟨g1, by rw [h44, if_neg hgf]; exact g2, old g F hgf g3⟩
  · by_cases hgf : g = f
    · exact Or.inr ⟨5, Or.inr rfl, by rw [up_at, hgf]; simp⟩
    · rw [h44, if_neg hgf]
      rcases c3.2 g hg with e | ⟨k, hkk, hm⟩
      · exact Or.inl e
      · refine Or.inr ⟨k, hkk, ?_⟩
        by_cases h5 : k = 5
        · subst h5; rw [up_at]; exact List.mem_append_left _ hm
        · rw [up_ne h5]; exact hm
  · rw [h52]
    show lay21 (I 52) p (enc σ.mak) j = lay21 σ.B p (enc σ.mak) j
    unfold lay21
    split
    · rfl
    · exact c4.2 j q
  · rw [h30, c5.2.1]
    show nI (σ.FS 5).length + 1 = nI (va_up σ.FS 5 (σ.FS 5 ++ [(nI σ.nf, nI p, nI (enc σ.mak).length, σ.mak)]) 5).length
    rw [up_at, List.length_append]
    exact nI_1 _
  · obtain ⟨d1, d2, d3, d4, d5, d6, d7, d8⟩ := c5.2.2 hj
    refine ⟨by rw [hK 21 (by decide) (by decide) (by decide) (by decide)]; exact d1, by rw [hK 22 (by decide) (by decide) (by decide) (by decide)]; exact d2, d3.keep (hk _ (by decide)) (hk _ (by decide)) (hk _ (by decide)), fun k q => by rw [hk 58 (by decide)]; exact d4 k q, fun q => by rw [hK 29 (by decide) (by decide) (by decide) (by decide)]; exact d5 q, h32, fun j e q => by simp [St.mak, St.J] at q, fun g hg => ?_⟩
    have es1 : va_up SL 5 (SL 5 ++ [f]) σ.tgt = SL σ.tgt := up_ne (by omega)
    have es2 : va_up SL 5 (SL 5 ++ [f]) (σ.tgt - 1) = SL (σ.tgt - 1) := up_ne (by omega)
    show bit (J 57 g) ((σ.tgt ≠ 0 ∧ g ∈ ((va_up SL 5 (SL 5 ++ [f]) (σ.tgt - 1)).take σ.lt).drop σ.lf) ∨ g ∈ ((va_up SL 5 (SL 5 ++ [f]) σ.tgt).take σ.tt).drop σ.tf)
    rw [es1, es2, h57]
    by_cases hgf : g = f
    · rw [if_pos hgf]
      refine bit_0 ?_
      rintro (⟨-, q⟩ | q)
      · exact hnf (σ.tgt - 1) (Or.inl (by omega)) (hgf ▸ sl_sub g q)
      · exact hnf σ.tgt (Or.inl (by omega)) (hgf ▸ sl_sub g q)
    · rw [if_neg hgf]; exact d8 g hg
end M14
