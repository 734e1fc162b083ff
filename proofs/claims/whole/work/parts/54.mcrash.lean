/-! THE REFERENCE: crash -/
def isGN (l : List En) (v : Int32) : Prop := 0 ≤ v.toInt ∧ (v = 0 ∨ ∃ e ∈ l, v = e.2.1) ∧ ∀ e ∈ l, e.2.1.toInt ≤ v.toInt
theorem isGN.uniq {l l' : List En} {v v' : Int32} (h : isGN l v) (h' : isGN l' v') (hm : ∀ e, e ∈ l ↔ e ∈ l') : v = v' := by
  have key : ∀ {l l' : List En} {v v' : Int32}, isGN l v → isGN l' v' → (∀ e, e ∈ l ↔ e ∈ l') → v.toInt ≤ v'.toInt := by
    intro l l' v v' h h' hm
    rcases h.2.1 with e | ⟨e, he, q⟩
    · have := h'.1; rw [e, tl_0]; exact this
    · rw [q]; exact h'.2.2 e ((hm e).mp he)
  exact tI_eq (by have := key h h' hm; have := key h' h (fun e => (hm e).symm); omega)
theorem isGN.mxx {l l' : List En} {v v' : Int32} (h : isGN l v) (h' : isGN l' v') : isGN (l ++ l') (mx v v') := by
  unfold mx
  by_cases q : v < v'
  · rw [if_pos q]
    have q := Int32.lt_iff_toInt_lt.mp q
    refine ⟨h'.1, ?_, fun e he => ?_⟩
    · rcases h'.2.1 with e | ⟨e, he, q⟩
      · exact Or.inl e
      · exact Or.inr ⟨e, List.mem_append_right _ he, q⟩
    · rcases List.mem_append.mp he with he | he
      · have := h.2.2 e he; omega
      · exact h'.2.2 e he
  · rw [if_neg q]
    have q := Int.not_lt.mp (fun z => q (Int32.lt_iff_toInt_lt.mpr z))
    refine ⟨h.1, ?_, fun e he => ?_⟩
    · rcases h.2.1 with e | ⟨e, he, q⟩
      · exact Or.inl e
      · exact Or.inr ⟨e, List.mem_append_left _ he, q⟩
    · rcases List.mem_append.mp he with he | he
      · exact h.2.2 e he
      · have := h'.2.2 e he; omega
theorem isGN.push {l : List En} {v : Int32} (h : isGN l v) (e : En) : isGN (l ++ [e]) (if v < e.2.1 then e.2.1 else v) := by
  by_cases q : v < e.2.1
  · rw [if_pos q]
    have q := Int32.lt_iff_toInt_lt.mp q
    refine ⟨by have := h.1; omega, Or.inr ⟨e, by simp, rfl⟩, fun e' he => ?_⟩
    rcases List.mem_append.mp he with he | he
    · have := h.2.2 e' he; omega
    · rw [List.mem_singleton.mp he]; exact Int.le_refl _
  · rw [if_neg q]
    have q := Int.not_lt.mp (fun z => q (Int32.lt_iff_toInt_lt.mpr z))
    refine ⟨h.1, ?_, fun e' he => ?_⟩
    · rcases h.2.1 with e | ⟨e, he, q⟩
      · exact Or.inl e
      · exact Or.inr ⟨e, List.mem_append_left _ he, q⟩
    · rcases List.mem_append.mp he with he | he
      · exact h.2.2 e' he
      · rw [List.mem_singleton.mp he]; exact q
theorem isGN_fold (l : List En) : ∀ (l0 : List En) (x : Int32), isGN l0 x → isGN (l0 ++ l) (gN x l) := by
  induction l with
  | nil => intro l0 x h; rw [List.append_nil]; exact h
  | cons e l ih =>
    intro l0 x h
    have := ih (l0 ++ [e]) _ (h.push e)
    rw [List.append_assoc] at this
    exact this
theorem isGN_nil : isGN [] 0 := ⟨by decide, Or.inl rfl, fun e he => absurd he List.not_mem_nil⟩
theorem isGN_all (l : List En) : isGN l (gN 0 l) := isGN_fold l [] 0 isGN_nil
theorem isGN_fs (fs : List FA) : ∀ (l0 : List En) (x : Int32), isGN l0 x → isGN (l0 ++ fs.flatMap FA.es) (fs.foldl mxN x) := by
  induction fs with
  | nil => intro l0 x h; rw [List.flatMap_nil, List.append_nil]; exact h
  | cons F fs ih =>
    intro l0 x h
    have := ih (l0 ++ F.es) _ (h.mxx (isGN_all F.es))
    rw [List.append_assoc] at this
    rw [List.flatMap_cons]
    exact this
theorem isGN_gnum (log : List En) (FS : Nat → List FA) : isGN (log ++ (FS 0 ++ FS 1 ++ FS 2 ++ FS 3).flatMap FA.es) (gnum log FS) := by
  have h0 := isGN_fs (FS 0) [] 0 isGN_nil
  have h1 := isGN_fs (FS 1) [] 0 isGN_nil
  have h2 := isGN_fs (FS 2) [] 0 isGN_nil
  have h3 := isGN_fs (FS 3) [] 0 isGN_nil
  rw [List.nil_append] at h0 h1 h2 h3
  rw [List.flatMap_append, List.flatMap_append, List.flatMap_append]
  have := ((((isGN_all log).mxx h0).mxx h1).mxx h2).mxx h3
  rw [List.append_assoc, List.append_assoc, List.append_assoc] at this
  rw [List.append_assoc, List.append_assoc]
  exact this
theorem gN_app (x : Int32) (a b : List En) : gN x (a ++ b) = gN (gN x a) b := by unfold gN; rw [List.foldl_append]
theorem u2_u2 (I : ab_II) (r k : Nat) (x y : Int32) : ab_u2 (ab_u2 I r k x) r k y = ab_u2 I r k y := by
  funext j i
  by_cases h : j = r ∧ i = k
  · obtain ⟨rfl, rfl⟩ := h
    rw [ab_u2_s, ab_u2_s]
  · have h : j ≠ r ∨ i ≠ k := by omega
    rw [ab_u2_n _ _ h, ab_u2_n _ _ h, ab_u2_n _ _ h]
section M4
variable {σ : St} {n : Nat} {S : ab_SH} {R : ab_RR} {I : ab_II} {SL : Nat → List Nat}
theorem m_crash_in (hX : Fx n S R) (w : Int32) {f m : Nat} (hf : f < 330) (hlv : 0 ≤ (I 44 f).toInt) (hm : I 48 f = nI m) (hm2 : m ≤ 24) (hml : (slE I f).length = m) (x0 : Int32) (post : ab_Po)
    (hpost : ∀ x : Int32, x = gN x0 (slE I f) → ∀ L, ab_sub L [(0, .ref 39), (1, .int w), (2, .int (nI f))] → wp 1 25 0 0 MX7_crash 167 L [] (n, S, R, ab_u2 I 39 6 x) post) :
    ∀ (d j : Nat) (x z : Int32) (L : List (Nat × Value)), m = j + d → z = nI (30 * f + j) → x = gN x0 ((slE I f).take j) → ab_sub L [(0, .ref 39), (1, .int w), (2, .int (nI f)), (3, .int z)] → wp 1 25 0 0 MX7_crash 107 L [] (n, S, R, ab_u2 I 39 6 x) post := by
  have z44 : (S 44).2 = 330 := hX.len (by decide)
  have z48 : (S 48).2 = 330 := hX.len (by decide)
  have z50 : (S 50).2 = 9900 := hX.len (by decide)
  have ef : (nI f).toInt = f := tI_n (by omega)
  have cf : (nI f).toNatClampNeg = f := nI_c (by omega)
  have elim : (30 : Int32) * nI f + nI m = nI (30 * f + m) := by rw [i30, nI_add]
  have elimI : (nI (30 * f + m)).toInt = ((30 * f + m : Nat) : Int) := tI_n (by omega)
  intro d
  induction d with
  | zero =>
    intro j x z L hj hz hp0 hL0
    refine wp_loc hL0 ?_
    have ez : z.toInt = ((30 * f + j : Nat) : Int) := by rw [hz, tI_n (by omega)]
    first | refine wp_aload_n (pc := 107) dX7_crash_107 rfl ?_ | refine wp_aload_nN (pc := 107) dX7_crash_107 rfl ?_
    refine wp_getR (pc := 108) dX7_crash_108 fl_LevelStoreModel_22 (by first | assumption | exact Fx.ok (by assumption) (by decide)) rfl (by first | assumption | exact Fx.ref (by assumption) rfl) ?_
    refine wp_iload_n (pc := 111) dX7_crash_111 rfl ?_
    refine wp_iaload (pc := 112) dX7_crash_112 (by first | assumption | exact Fx.ok (by assumption) (by decide)) (in_I (by omega) (by rw [z44]; omega)) ?_
    rw [cf, ab_u2_r _ _ (by decide)]
    refine wp_if_lt (pc := 113) (tgt := 167) dX7_crash_113 (by decide) (fun hc => ?_) (fun hc => ?_)
    · omega
    · skip
      refine wp_iload_n (pc := 116) dX7_crash_116 rfl ?_
      refine wp_bipush (pc := 117) (v := 30) dX7_crash_117 (by decide) ?_
      refine wp_iload_n (pc := 119) dX7_crash_119 rfl ?_
      refine wp_imul (pc := 120) dX7_crash_120 ?_
      first | refine wp_aload_n (pc := 121) dX7_crash_121 rfl ?_ | refine wp_aload_nN (pc := 121) dX7_crash_121 rfl ?_
      refine wp_getR (pc := 122) dX7_crash_122 fl_LevelStoreModel_34 (by first | assumption | exact Fx.ok (by assumption) (by decide)) rfl (by first | assumption | exact Fx.ref (by assumption) rfl) ?_
      refine wp_iload_n (pc := 125) dX7_crash_125 rfl ?_
      refine wp_iaload (pc := 126) dX7_crash_126 (by first | assumption | exact Fx.ok (by assumption) (by decide)) (in_I (by omega) (by rw [z48]; omega)) ?_
      rw [cf, ab_u2_r _ _ (by decide), hm]
      refine wp_iadd (pc := 127) dX7_crash_127 ?_
      rw [elim]
      refine wp_icmp_ge (pc := 128) (tgt := 167) dX7_crash_128 (by decide) (fun hc => ?_) (fun hc => ?_)
      · skip
        exact hpost x (by rw [hp0, List.take_of_length_le (by omega)]) _ ⟨rfl, rfl, rfl, trivial⟩
      · rw [elimI] at hc; omega
  | succ d ih =>
    intro j x z L hj hz hp0 hL0
    refine wp_loc hL0 ?_
    have ez : z.toInt = ((30 * f + j : Nat) : Int) := by rw [hz, tI_n (by omega)]
    have cz : z.toNatClampNeg = 30 * f + j := by rw [tI_c]; omega
    have eg := slE_get (I := I) (f := f) (m := m) (j := j) hm hm2 (by omega)
    have nxt : ∀ y : Int32, y = (if x < I 50 (30 * f + j) then I 50 (30 * f + j) else x) → wp 1 25 0 0 MX7_crash 158 [(0, .ref 39), (1, .int w), (2, .int (nI f)), (3, .int z)] [.int y, .ref 39] (n, S, R, ab_u2 I 39 6 x) post := by
      intro y hy
      refine wp_putI (pc := 158) dX7_crash_158 fl_LevelStoreModel_96 (by first | assumption | exact Fx.ok (by assumption) (by decide)) rfl rfl (Or.inl rfl) ?_
      rw [u2_u2]
      refine wp_iinc (pc := 161) dX7_crash_161 rfl (by decide) rfl ?_
      refine wp_goto (pc := 164) (tgt := 107) dX7_crash_164 (by decide) ?_
      exact ih (j + 1) y _ _ (by omega) (by rw [hz, show 30 * f + (j + 1) = 30 * f + j + 1 by omega]; exact nI_i1 _) (by rw [td_succ eg, gN_app, ← hp0, hy]; rfl) ⟨rfl, rfl, rfl, rfl, trivial⟩
    first | refine wp_aload_n (pc := 107) dX7_crash_107 rfl ?_ | refine wp_aload_nN (pc := 107) dX7_crash_107 rfl ?_
    refine wp_getR (pc := 108) dX7_crash_108 fl_LevelStoreModel_22 (by first | assumption | exact Fx.ok (by assumption) (by decide)) rfl (by first | assumption | exact Fx.ref (by assumption) rfl) ?_
    refine wp_iload_n (pc := 111) dX7_crash_111 rfl ?_
    refine wp_iaload (pc := 112) dX7_crash_112 (by first | assumption | exact Fx.ok (by assumption) (by decide)) (in_I (by omega) (by rw [z44]; omega)) ?_
    rw [cf, ab_u2_r _ _ (by decide)]
    refine wp_if_lt (pc := 113) (tgt := 167) dX7_crash_113 (by decide) (fun hc => ?_) (fun hc => ?_)
    · omega
    · skip
      refine wp_iload_n (pc := 116) dX7_crash_116 rfl ?_
      refine wp_bipush (pc := 117) (v := 30) dX7_crash_117 (by decide) ?_
      refine wp_iload_n (pc := 119) dX7_crash_119 rfl ?_
      refine wp_imul (pc := 120) dX7_crash_120 ?_
      first | refine wp_aload_n (pc := 121) dX7_crash_121 rfl ?_ | refine wp_aload_nN (pc := 121) dX7_crash_121 rfl ?_
      refine wp_getR (pc := 122) dX7_crash_122 fl_LevelStoreModel_34 (by first | assumption | exact Fx.ok (by assumption) (by decide)) rfl (by first | assumption | exact Fx.ref (by assumption) rfl) ?_
      refine wp_iload_n (pc := 125) dX7_crash_125 rfl ?_
      refine wp_iaload (pc := 126) dX7_crash_126 (by first | assumption | exact Fx.ok (by assumption) (by decide)) (in_I (by omega) (by rw [z48]; omega)) ?_
      rw [cf, ab_u2_r _ _ (by decide), hm]
      refine wp_iadd (pc := 127) dX7_crash_127 ?_
      rw [elim]
      refine wp_icmp_ge (pc := 128) (tgt := 167) dX7_crash_128 (by decide) (fun hc => ?_) (fun hc => ?_)
      · rw [elimI] at hc; omega
      · skip
        first | refine wp_aload_n (pc := 131) dX7_crash_131 rfl ?_ | refine wp_aload_nN (pc := 131) dX7_crash_131 rfl ?_
        first | refine wp_aload_n (pc := 132) dX7_crash_132 rfl ?_ | refine wp_aload_nN (pc := 132) dX7_crash_132 rfl ?_
        refine wp_getR (pc := 133) dX7_crash_133 fl_LevelStoreModel_40 (by first | assumption | exact Fx.ok (by assumption) (by decide)) rfl (by first | assumption | exact Fx.ref (by assumption) rfl) ?_
        refine wp_iload_n (pc := 136) dX7_crash_136 rfl ?_
        refine wp_iaload (pc := 137) dX7_crash_137 (by first | assumption | exact Fx.ok (by assumption) (by decide)) (in_I (by omega) (by rw [z50]; omega)) ?_
        rw [cz, ab_u2_r _ _ (by decide)]
        first | refine wp_aload_n (pc := 138) dX7_crash_138 rfl ?_ | refine wp_aload_nN (pc := 138) dX7_crash_138 rfl ?_
        refine wp_getI (pc := 139) dX7_crash_139 fl_LevelStoreModel_96 (by first | assumption | exact Fx.ok (by assumption) (by decide)) rfl ?_
        rw [ab_u2_s]
        refine wp_icmp_le (pc := 142) (tgt := 154) dX7_crash_142 (by decide) (fun hc => ?_) (fun hc => ?_)
        · skip
          first | refine wp_aload_n (pc := 154) dX7_crash_154 rfl ?_ | refine wp_aload_nN (pc := 154) dX7_crash_154 rfl ?_
          refine wp_getI (pc := 155) dX7_crash_155 fl_LevelStoreModel_96 (by first | assumption | exact Fx.ok (by assumption) (by decide)) rfl ?_
          first
          | exact wp_loc (L' := [(0, .ref 39), (1, .int w), (2, .int (nI f)), (3, .int z)]) ⟨rfl, rfl, rfl, rfl, trivial⟩ (nxt _ (by rw [if_pos (Int32.lt_iff_toInt_lt.mpr hc)]))
          | (rw [ab_u2_s]; exact wp_loc (L' := [(0, .ref 39), (1, .int w), (2, .int (nI f)), (3, .int z)]) ⟨rfl, rfl, rfl, rfl, trivial⟩ (nxt _ (by rw [if_neg (fun q => by have := Int32.lt_iff_toInt_lt.mp q; omega)])))
        · skip
          first | refine wp_aload_n (pc := 145) dX7_crash_145 rfl ?_ | refine wp_aload_nN (pc := 145) dX7_crash_145 rfl ?_
          refine wp_getR (pc := 146) dX7_crash_146 fl_LevelStoreModel_40 (by first | assumption | exact Fx.ok (by assumption) (by decide)) rfl (by first | assumption | exact Fx.ref (by assumption) rfl) ?_
          refine wp_iload_n (pc := 149) dX7_crash_149 rfl ?_
          refine wp_iaload (pc := 150) dX7_crash_150 (by first | assumption | exact Fx.ok (by assumption) (by decide)) (in_I (by omega) (by rw [z50]; omega)) ?_
          rw [cz, ab_u2_r _ _ (by decide)]
          refine wp_goto (pc := 151) (tgt := 158) dX7_crash_151 (by decide) ?_
          first
          | exact wp_loc (L' := [(0, .ref 39), (1, .int w), (2, .int (nI f)), (3, .int z)]) ⟨rfl, rfl, rfl, rfl, trivial⟩ (nxt _ (by rw [if_pos (Int32.lt_iff_toInt_lt.mpr hc)]))
          | (rw [ab_u2_s]; exact wp_loc (L' := [(0, .ref 39), (1, .int w), (2, .int (nI f)), (3, .int z)]) ⟨rfl, rfl, rfl, rfl, trivial⟩ (nxt _ (by rw [if_neg (fun q => by have := Int32.lt_iff_toInt_lt.mp q; omega)])))
theorem m_crash_sl (hX : Fx n S R) (h : mSl σ I SL) (w x0 : Int32) (post : ab_Po)
    (hpost : ∀ x : Int32, x = gN x0 ((slT I pA 330).flatMap (slE I)) → ∀ L, ab_sub L [(0, .ref 39), (1, .int w)] → wp 1 25 0 0 MX7_crash 173 L [] (n, S, R, ab_u2 I 39 6 x) post) :
    ∀ (d t : Nat) (x y : Int32) (L : List (Nat × Value)), 330 = t + d → y = nI t → x = gN x0 ((slT I pA t).flatMap (slE I)) → ab_sub L [(0, .ref 39), (1, .int w), (2, .int y)] → wp 1 25 0 0 MX7_crash 95 L [] (n, S, R, ab_u2 I 39 6 x) post := by
  have z44 : (S 44).2 = 330 := hX.len (by decide)
  have t330 : (330 : Int32).toInt = 330 := by decide +kernel
  intro d
  induction d with
  | zero =>
    intro t x y L ht hy hp0 hL0
    refine wp_loc hL0 ?_
    have ey : y.toInt = t := by rw [hy, tI_n (by omega)]
    refine wp_iload_n (pc := 95) dX7_crash_95 rfl ?_
    refine wp_sipush (pc := 96) (v := 330) dX7_crash_96 (by decide) ?_
    refine wp_icmp_ge (pc := 99) (tgt := 173) dX7_crash_99 (by decide) (fun hc => ?_) (fun hc => ?_)
    · skip
      exact hpost x (by rw [hp0, show t = 330 by omega]) _ ⟨rfl, rfl, trivial⟩
    · rw [t330] at hc; omega
  | succ d ih =>
    intro t x y L ht hy hp0 hL0
    refine wp_loc hL0 ?_
    subst hy
    have ey : (nI t).toInt = t := tI_n (by omega)
    have cy : (nI t).toNatClampNeg = t := nI_c (by omega)
    have nxt : ∀ (q : Int32) (L : List (Nat × Value)), q = gN x0 ((slT I pA (t + 1)).flatMap (slE I)) → ab_sub L [(0, .ref 39), (1, .int w), (2, .int (nI t))] → wp 1 25 0 0 MX7_crash 167 L [] (n, S, R, ab_u2 I 39 6 q) post := by
      intro q L hq hL
      refine wp_loc hL ?_
      refine wp_iinc (pc := 167) dX7_crash_167 rfl (by decide) rfl ?_
      refine wp_goto (pc := 170) (tgt := 95) dX7_crash_170 (by decide) ?_
      exact ih (t + 1) q _ _ (by omega) (nI_i1 t) hq ⟨rfl, rfl, rfl, trivial⟩
    by_cases hlv : 0 ≤ (I 44 t).toInt
    · obtain ⟨m, hm2, hm, hml⟩ := h.many (f := t) (by omega) hlv
      have hp1 : pA (I 44 t) = true := decide_eq_true hlv
      refine wp_iload_n (pc := 95) dX7_crash_95 rfl ?_
      refine wp_sipush (pc := 96) (v := 330) dX7_crash_96 (by decide) ?_
      refine wp_icmp_ge (pc := 99) (tgt := 173) dX7_crash_99 (by decide) (fun hc => ?_) (fun hc => ?_)
      · rw [t330] at hc; omega
      · skip
        refine wp_bipush (pc := 102) (v := 30) dX7_crash_102 (by decide) ?_
        refine wp_iload_n (pc := 104) dX7_crash_104 rfl ?_
        refine wp_imul (pc := 105) dX7_crash_105 ?_
        rw [i30]
        refine wp_istore_n (pc := 106) dX7_crash_106 (by decide) rfl ?_
        exact m_crash_in hX w (by omega) hlv hm hm2 hml x post (fun q hq L hL => nxt q L (by rw [hq, hp0, slT_y hp1, List.flatMap_append, gN_app]; simp) hL) m 0 x _ _ (by omega) rfl rfl ⟨rfl, rfl, rfl, rfl, trivial⟩
    · have hp1 : pA (I 44 t) = false := decide_eq_false hlv
      refine wp_iload_n (pc := 95) dX7_crash_95 rfl ?_
      refine wp_sipush (pc := 96) (v := 330) dX7_crash_96 (by decide) ?_
      refine wp_icmp_ge (pc := 99) (tgt := 173) dX7_crash_99 (by decide) (fun hc => ?_) (fun hc => ?_)
      · rw [t330] at hc; omega
      · skip
        refine wp_bipush (pc := 102) (v := 30) dX7_crash_102 (by decide) ?_
        refine wp_iload_n (pc := 104) dX7_crash_104 rfl ?_
        refine wp_imul (pc := 105) dX7_crash_105 ?_
        refine wp_istore_n (pc := 106) dX7_crash_106 (by decide) rfl ?_
        first | refine wp_aload_n (pc := 107) dX7_crash_107 rfl ?_ | refine wp_aload_nN (pc := 107) dX7_crash_107 rfl ?_
        refine wp_getR (pc := 108) dX7_crash_108 fl_LevelStoreModel_22 (by first | assumption | exact Fx.ok (by assumption) (by decide)) rfl (by first | assumption | exact Fx.ref (by assumption) rfl) ?_
        refine wp_iload_n (pc := 111) dX7_crash_111 rfl ?_
        refine wp_iaload (pc := 112) dX7_crash_112 (by first | assumption | exact Fx.ok (by assumption) (by decide)) (in_I (by omega) (by rw [z44]; omega)) ?_
        rw [cy, ab_u2_r _ _ (by decide)]
        refine wp_if_lt (pc := 113) (tgt := 167) dX7_crash_113 (by decide) (fun hc => ?_) (fun hc => ?_)
        · skip
          exact nxt x _ (by rw [hp0, slT_n hp1]) ⟨rfl, rfl, rfl, trivial⟩
        · omega
theorem m_crash_log (hX : Fx n S R) {log : List En} (hl : log.length ≤ 24) (h1 : I 39 1 = nI log.length) (h2 : arr3 I 40 41 42 0 log) (w : Int32) (post : ab_Po)
    (hpost : ∀ x : Int32, x = gN 0 log → ∀ L, ab_sub L [(0, .ref 39), (1, .int w)] → wp 1 25 0 0 MX7_crash 93 L [] (n, S, R, ab_u2 I 39 6 x) post) :
    ∀ (d t : Nat) (x y : Int32) (L : List (Nat × Value)), log.length = t + d → y = nI t → x = gN 0 (log.take t) → ab_sub L [(0, .ref 39), (1, .int w), (2, .int y)] → wp 1 25 0 0 MX7_crash 49 L [] (n, S, R, ab_u2 I 39 6 x) post := by
  have z41 : (S 41).2 = 24 := hX.len (by decide)
  have e1 : (I 39 1).toInt = log.length := by rw [h1, tI_n (by omega)]
  intro d
  induction d with
  | zero =>
    intro t x y L ht hy hp0 hL0
    refine wp_loc hL0 ?_
    have ey : y.toInt = t := by rw [hy, tI_n (by omega)]
    refine wp_iload_n (pc := 49) dX7_crash_49 rfl ?_
    first | refine wp_aload_n (pc := 50) dX7_crash_50 rfl ?_ | refine wp_aload_nN (pc := 50) dX7_crash_50 rfl ?_
    refine wp_getI (pc := 51) dX7_crash_51 fl_LevelStoreModel_93 (by first | assumption | exact Fx.ok (by assumption) (by decide)) rfl ?_
    rw [ab_u2_n _ _ (Or.inr (by decide))]
    refine wp_icmp_ge (pc := 54) (tgt := 93) dX7_crash_54 (by decide) (fun hc => ?_) (fun hc => ?_)
    · skip
      exact hpost x (by rw [hp0, List.take_of_length_le (by omega)]) _ ⟨rfl, rfl, trivial⟩
    · omega
  | succ d ih =>
    intro t x y L ht hy hp0 hL0
    refine wp_loc hL0 ?_
    have ey : y.toInt = t := by rw [hy, tI_n (by omega)]
    have cy : y.toNatClampNeg = t := by rw [tI_c]; omega
    have eg : log[t]? = some log[t] := List.getElem?_eq_getElem (by omega)
    obtain ⟨a1, a2, a3⟩ := h2 t _ eg
    rw [Nat.zero_add] at a1 a2 a3
    have nxt : ∀ v : Int32, v = (if x < (log[t]).2.1 then (log[t]).2.1 else x) → wp 1 25 0 0 MX7_crash 84 [(0, .ref 39), (1, .int w), (2, .int y)] [.int v, .ref 39] (n, S, R, ab_u2 I 39 6 x) post := by
      intro v hv
      refine wp_putI (pc := 84) dX7_crash_84 fl_LevelStoreModel_96 (by first | assumption | exact Fx.ok (by assumption) (by decide)) rfl rfl (Or.inl rfl) ?_
      rw [u2_u2]
      refine wp_iinc (pc := 87) dX7_crash_87 rfl (by decide) rfl ?_
      refine wp_goto (pc := 90) (tgt := 49) dX7_crash_90 (by decide) ?_
      exact ih (t + 1) v _ _ (by omega) (by rw [hy]; exact nI_i1 _) (by rw [td_succ eg, gN_app, ← hp0, hv]; rfl) ⟨rfl, rfl, rfl, trivial⟩
    refine wp_iload_n (pc := 49) dX7_crash_49 rfl ?_
    first | refine wp_aload_n (pc := 50) dX7_crash_50 rfl ?_ | refine wp_aload_nN (pc := 50) dX7_crash_50 rfl ?_
    refine wp_getI (pc := 51) dX7_crash_51 fl_LevelStoreModel_93 (by first | assumption | exact Fx.ok (by assumption) (by decide)) rfl ?_
    rw [ab_u2_n _ _ (Or.inr (by decide))]
    refine wp_icmp_ge (pc := 54) (tgt := 93) dX7_crash_54 (by decide) (fun hc => ?_) (fun hc => ?_)
    · omega
    · skip
      first | refine wp_aload_n (pc := 57) dX7_crash_57 rfl ?_ | refine wp_aload_nN (pc := 57) dX7_crash_57 rfl ?_
      first | refine wp_aload_n (pc := 58) dX7_crash_58 rfl ?_ | refine wp_aload_nN (pc := 58) dX7_crash_58 rfl ?_
      refine wp_getR (pc := 59) dX7_crash_59 fl_LevelStoreModel_13 (by first | assumption | exact Fx.ok (by assumption) (by decide)) rfl (by first | assumption | exact Fx.ref (by assumption) rfl) ?_
      refine wp_iload_n (pc := 62) dX7_crash_62 rfl ?_
      refine wp_iaload (pc := 63) dX7_crash_63 (by first | assumption | exact Fx.ok (by assumption) (by decide)) (in_I (by omega) (by rw [z41]; omega)) ?_
      rw [cy, ab_u2_r _ _ (by decide), a2]
      first | refine wp_aload_n (pc := 64) dX7_crash_64 rfl ?_ | refine wp_aload_nN (pc := 64) dX7_crash_64 rfl ?_
      refine wp_getI (pc := 65) dX7_crash_65 fl_LevelStoreModel_96 (by first | assumption | exact Fx.ok (by assumption) (by decide)) rfl ?_
      rw [ab_u2_s]
      refine wp_icmp_le (pc := 68) (tgt := 80) dX7_crash_68 (by decide) (fun hc => ?_) (fun hc => ?_)
      · skip
        first | refine wp_aload_n (pc := 80) dX7_crash_80 rfl ?_ | refine wp_aload_nN (pc := 80) dX7_crash_80 rfl ?_
        refine wp_getI (pc := 81) dX7_crash_81 fl_LevelStoreModel_96 (by first | assumption | exact Fx.ok (by assumption) (by decide)) rfl ?_
        first
        | exact wp_loc (L' := [(0, .ref 39), (1, .int w), (2, .int y)]) ⟨rfl, rfl, rfl, trivial⟩ (nxt _ (by rw [if_pos (Int32.lt_iff_toInt_lt.mpr hc)]))
        | (rw [ab_u2_s]; exact wp_loc (L' := [(0, .ref 39), (1, .int w), (2, .int y)]) ⟨rfl, rfl, rfl, trivial⟩ (nxt _ (by rw [if_neg (fun q => by have := Int32.lt_iff_toInt_lt.mp q; omega)])))
      · skip
        first | refine wp_aload_n (pc := 71) dX7_crash_71 rfl ?_ | refine wp_aload_nN (pc := 71) dX7_crash_71 rfl ?_
        refine wp_getR (pc := 72) dX7_crash_72 fl_LevelStoreModel_13 (by first | assumption | exact Fx.ok (by assumption) (by decide)) rfl (by first | assumption | exact Fx.ref (by assumption) rfl) ?_
        refine wp_iload_n (pc := 75) dX7_crash_75 rfl ?_
        refine wp_iaload (pc := 76) dX7_crash_76 (by first | assumption | exact Fx.ok (by assumption) (by decide)) (in_I (by omega) (by rw [z41]; omega)) ?_
        rw [cy, ab_u2_r _ _ (by decide), a2]
        refine wp_goto (pc := 77) (tgt := 84) dX7_crash_77 (by decide) ?_
        first
        | exact wp_loc (L' := [(0, .ref 39), (1, .int w), (2, .int y)]) ⟨rfl, rfl, rfl, trivial⟩ (nxt _ (by rw [if_pos (Int32.lt_iff_toInt_lt.mpr hc)]))
        | (rw [ab_u2_s]; exact wp_loc (L' := [(0, .ref 39), (1, .int w), (2, .int y)]) ⟨rfl, rfl, rfl, trivial⟩ (nxt _ (by rw [if_neg (fun q => by have := Int32.lt_iff_toInt_lt.mp q; omega)])))
theorem m_crash_v (hX : Fx n S R) (w : Int32) {I0 : ab_II} (post : ab_Po) (hpost : ∀ I' : ab_II, fM I0 I' [43] [] → (∀ k, k < 3 → I' 43 k = -1) → post (some (.int (I0 39 1))) (n, S, R, I')) :
    ∀ (d t : Nat) (y : Int32) (I : ab_II) (L : List (Nat × Value)), 3 = t + d → y = nI t → fM I0 I [43] [] → (∀ k, k < t → I 43 k = -1) → ab_sub L [(0, .ref 39), (1, .int w), (2, .int y)] → wp 1 25 0 0 MX7_crash 175 L [] (n, S, R, I) post := by
  have z : (S 43).2 = 3 := hX.len (by decide)
  intro d
  induction d with
  | zero =>
    intro t y I L ht hy hf hv hL0
    refine wp_loc hL0 ?_
    have ey : y.toInt = t := by rw [hy, tI_n (by omega)]
    refine wp_iload_n (pc := 175) dX7_crash_175 rfl ?_
    refine wp_iconst (pc := 176) (v := 3) dX7_crash_176 (by decide) ?_
    refine wp_icmp_ge (pc := 177) (tgt := 193) dX7_crash_177 (by decide) (fun hc => ?_) (fun hc => ?_)
    · skip
      first | refine wp_aload_n (pc := 193) dX7_crash_193 rfl ?_ | refine wp_aload_nN (pc := 193) dX7_crash_193 rfl ?_
      refine wp_getI (pc := 194) dX7_crash_194 fl_LevelStoreModel_93 (by first | assumption | exact Fx.ok (by assumption) (by decide)) rfl ?_
      refine wp_ret (pc := 197) dX7_crash_197 rfl (by first | trivial | exact Or.inl rfl | exact Or.inr rfl | assumption) ?_
      rw [hf.2 1 (by simp)]; exact hpost I hf (fun k q => hv k (by omega))
    · rw [tl_3] at hc; omega
  | succ d ih =>
    intro t y I L ht hy hf hv hL0
    refine wp_loc hL0 ?_
    have ey : y.toInt = t := by rw [hy, tI_n (by omega)]
    have cy : y.toNatClampNeg = t := by rw [tI_c]; omega
    refine wp_iload_n (pc := 175) dX7_crash_175 rfl ?_
    refine wp_iconst (pc := 176) (v := 3) dX7_crash_176 (by decide) ?_
    refine wp_icmp_ge (pc := 177) (tgt := 193) dX7_crash_177 (by decide) (fun hc => ?_) (fun hc => ?_)
    · rw [tl_3] at hc; omega
    · skip
      first | refine wp_aload_n (pc := 180) dX7_crash_180 rfl ?_ | refine wp_aload_nN (pc := 180) dX7_crash_180 rfl ?_
      refine wp_getR (pc := 181) dX7_crash_181 fl_LevelStoreModel_19 (by first | assumption | exact Fx.ok (by assumption) (by decide)) rfl (by first | assumption | exact Fx.ref (by assumption) rfl) ?_
      refine wp_iload_n (pc := 184) dX7_crash_184 rfl ?_
      refine wp_iconst (pc := 185) (v := -1) dX7_crash_185 (by decide) ?_
      refine wp_iastore (pc := 186) dX7_crash_186 (by first | assumption | exact Fx.ok (by assumption) (by decide)) (in_I (by omega) (by rw [z]; omega)) ?_
      rw [cy]
      refine wp_iinc (pc := 187) dX7_crash_187 rfl (by decide) rfl ?_
      refine wp_goto (pc := 190) (tgt := 175) dX7_crash_190 (by decide) ?_
      refine ih (t + 1) _ _ _ (by omega) (by rw [hy]; exact nI_i1 t) (hf.tr1 (fM.ua (by simp) (by decide))) (fun k q => ?_) ⟨rfl, rfl, rfl, trivial⟩
      by_cases q2 : k = t
      · rw [q2, ab_u2_s]
      · rw [ab_u2_n _ _ (Or.inr q2)]; exact hv k (by omega)
theorem m_crash_93 (hX : Fx n S R) (w : Int32) (post : ab_Po) (pc pc' : Nat) (hpc : (pc = 93 ∧ pc' = 95) ∨ (pc = 173 ∧ pc' = 175)) (hk : ∀ L, ab_sub L [(0, .ref 39), (1, .int w), (2, .int 0)] → wp 1 25 0 0 MX7_crash pc' L [] (n, S, R, I) post) (L : List (Nat × Value)) (hL : ab_sub L [(0, .ref 39), (1, .int w)]) : wp 1 25 0 0 MX7_crash pc L [] (n, S, R, I) post := by
  refine wp_loc hL ?_
  rcases hpc with ⟨rfl, rfl⟩ | ⟨rfl, rfl⟩
  · skip
    refine wp_iconst (pc := 93) (v := 0) dX7_crash_93 (by decide) ?_
    refine wp_istore_n (pc := 94) dX7_crash_94 (by decide) rfl ?_
    exact hk _ ⟨rfl, rfl, rfl, trivial⟩
  · skip
    refine wp_iconst (pc := 173) (v := 0) dX7_crash_173 (by decide) ?_
    refine wp_istore_n (pc := 174) dX7_crash_174 (by decide) rfl ?_
    exact hk _ ⟨rfl, rfl, rfl, trivial⟩
theorem m_crash_42 (hX : Fx n S R) (h : RM σ I SL) (hl : σ.log.length ≤ 24) (h5 : SL 5 = []) (w : Int32) {post : ab_Po} (hpost : ∀ I', kC I I' → RM (σ.D σ.log σ.syn (gnum σ.log σ.FS).toInt.toNat (noV σ.V)) I' SL → post (some (.int (nI σ.log.length))) (n, S, R, I')) (L : List (Nat × Value)) (hL : ab_sub L [(0, .ref 39), (1, .int w)]) : wp 1 25 0 0 MX7_crash 42 L [] (n, S, R, I) post := by
  refine wp_loc hL ?_
  first | refine wp_aload_n (pc := 42) dX7_crash_42 rfl ?_ | refine wp_aload_nN (pc := 42) dX7_crash_42 rfl ?_
  refine wp_iconst (pc := 43) (v := 0) dX7_crash_43 (by decide) ?_
  refine wp_putI (pc := 44) dX7_crash_44 fl_LevelStoreModel_96 (by first | assumption | exact Fx.ok (by assumption) (by decide)) rfl rfl (Or.inl rfl) ?_
  refine wp_iconst (pc := 47) (v := 0) dX7_crash_47 (by decide) ?_
  refine wp_istore_n (pc := 48) dX7_crash_48 (by decide) rfl ?_
  refine m_crash_log hX hl h.lg.1 h.lg.2 w _ (fun x hx L hL => m_crash_93 hX w _ 93 95 (Or.inl ⟨rfl, rfl⟩) (fun L2 hL2 => m_crash_sl hX h.sl w x _ (fun y hy L3 hL3 => m_crash_93 hX w _ 173 175 (Or.inr ⟨rfl, rfl⟩) (fun L4 hL4 => m_crash_v hX w _ (fun I' hf hv => ?_) 3 0 _ _ L4 rfl rfl fM.rf (fun k q => by omega) hL4) L3 hL3) 330 0 x _ _ rfl rfl rfl hL2) L hL) σ.log.length 0 0 _ _ (by omega) rfl rfl ⟨rfl, rfl, rfl, trivial⟩
  have ey : y = gnum σ.log σ.FS := by
    rw [hx, ← gN_app] at hy
    rw [hy]
    refine (isGN_all _).uniq (isGN_gnum σ.log σ.FS) (fun e => ?_)
    have ep : slT I pA 330 = slT I pF 330 := by
      unfold slT
      refine List.filter_congr (fun f hf => ?_)
      have hf := List.mem_range.mp hf
      rcases h.sl.2 f hf with q | ⟨k, hk, hm⟩
      · rw [q]; decide
      · have hk5 : k ≠ 5 := fun q => by rw [q, h5] at hm; exact absurd hm List.not_mem_nil
        rcases lvc_cases hk with ⟨q, -⟩ | ⟨q, -, -, q2⟩
        · exact absurd q hk5
        · rw [(h.sl.mem hk hm).2.1]
          rw [pA, pF, decide_eq_decide, q2]; omega
    rw [ep, List.mem_append, List.mem_append, h.sl.permE.mem_iff]
  rw [ab_u2_n _ _ (Or.inr (by decide)), h.lg.1]
  have hI : ∀ j, j ≠ 39 → j ≠ 43 → I' j = I j := fun j h1 h2 => (hf.1 j (by simp [h2]) h1).trans (ab_u2_r _ _ h1)
  have hK : ∀ k, k ≠ 6 → I' 39 k = I 39 k := fun k h1 => (hf.2 k (by simp)).trans (ab_u2_n _ _ (Or.inr h1))
  refine hpost I' (fun j hj => hI j (by omega) (by omega)) (h.setD (fun j hj => ?_) (fun k hk => ?_) ?_ ?_ ?_ ?_ (fun k hk => ?_))
  · simp only [List.mem_cons, List.not_mem_nil, or_false, not_or] at hj; exact hI j hj.1 hj.2.2.2.2
  · simp only [List.mem_cons, List.not_mem_nil, or_false, not_or] at hk; exact hK k hk.2.2
  · rw [hK 1 (by decide)]; exact h.lg.1
  · exact h.lg.2.keep (hI _ (by decide) (by decide)) (hI _ (by decide) (by decide)) (hI _ (by decide) (by decide))
  · rw [hK 2 (by decide)]; exact h.dt.1
  · rw [hf.2 6 (by simp), ab_u2_s, ey]; exact gnum_nI _ _
  · rw [hv k hk]; unfold noV; rw [if_pos hk]
theorem m_crash (hX : Fx n S R) (h : RM σ I SL) (hl : σ.log.length ≤ 24) (hs : σ.syn ≤ σ.log.length) (h5 : σ.job = false → σ.FS 5 = []) (hnf : (σ.FS 5).length ≤ σ.nf) (x : Int32) : wp 1 25 0 0 MX7_crash 0 [(0, .ref 39), (1, .int x)] [] (n, S, R, I) (mP I n S R (σ.crash x)) := by
  have hB : ¬ (0 ≤ x.toInt ∧ x.toInt ≤ ((σ.log.length - σ.syn : Nat) : Int)) → σ.crash x = (cBAD, σ) := fun q => by unfold St.crash; rw [if_neg q]
  first | refine wp_aload_n (pc := 0) dX7_crash_0 rfl ?_ | refine wp_aload_nN (pc := 0) dX7_crash_0 rfl ?_
  refine wp_iconst (pc := 1) (v := 0) dX7_crash_1 (by decide) ?_
  refine wp_putI (pc := 2) dX7_crash_2 fl_LevelStoreModel_89 (by first | assumption | exact Fx.ok (by assumption) (by decide)) rfl rfl (Or.inl rfl) ?_
  have h1 := h.z
  have hk := kC.z (I := I)
  generalize ab_u2 I 39 0 0 = J at h1 hk ⊢
  have e2 : (J 39 1 - J 39 2).toInt64.toInt = ((σ.log.length - σ.syn : Nat) : Int) := by rw [Int32.toInt_toInt64, h1.lg.1, h1.dt.1, pk_sub hs, tI_n (by omega)]
  refine wp_iload_n (pc := 5) dX7_crash_5 rfl ?_
  refine wp_i2l (pc := 6) dX7_crash_6 ?_
  refine wp_lconst (pc := 7) (v := 0) dX7_crash_7 (by decide) ?_
  first | refine wp_aload_n (pc := 8) dX7_crash_8 rfl ?_ | refine wp_aload_nN (pc := 8) dX7_crash_8 rfl ?_
  refine wp_getI (pc := 9) dX7_crash_9 fl_LevelStoreModel_93 (by first | assumption | exact Fx.ok (by assumption) (by decide)) rfl ?_
  first | refine wp_aload_n (pc := 12) dX7_crash_12 rfl ?_ | refine wp_aload_nN (pc := 12) dX7_crash_12 rfl ?_
  refine wp_getI (pc := 13) dX7_crash_13 fl_LevelStoreModel_117 (by first | assumption | exact Fx.ok (by assumption) (by decide)) rfl ?_
  refine wp_isub (pc := 16) dX7_crash_16 ?_
  refine wp_i2l (pc := 17) dX7_crash_17 ?_
  refine cv_LevelStoreModel_103 (pc := 18) (s_inI x l64_0 e2) rfl dX7_crash_18 ⟨by decide, by decide, Nat.zero_le _, Nat.zero_le _⟩ (Nat.le_of_ble_eq_true rfl) (fun v h hp => ?_)
  obtain ⟨rfl, rfl⟩ := hp
  refine wp_if_ne (pc := 21) (tgt := 27) dX7_crash_21 (by decide) (fun hc => ?_) (fun hc => ?_)
  · have hok := ite01n hc
    first | refine wp_aload_n (pc := 27) dX7_crash_27 rfl ?_ | refine wp_aload_nN (pc := 27) dX7_crash_27 rfl ?_
    first | refine wp_aload_n (pc := 28) dX7_crash_28 rfl ?_ | refine wp_aload_nN (pc := 28) dX7_crash_28 rfl ?_
    refine wp_getI (pc := 29) dX7_crash_29 fl_LevelStoreModel_117 (by first | assumption | exact Fx.ok (by assumption) (by decide)) rfl ?_
    refine wp_iload_n (pc := 32) dX7_crash_32 rfl ?_
    refine wp_iadd (pc := 33) dX7_crash_33 ?_
    have e3 : J 39 2 + x = nI (σ.syn + x.toInt.toNat) := by rw [h1.dt.1, show x = nI x.toInt.toNat from tI_N (by omega)]; exact (nI_add _ _).trans (by rw [tI_n (by omega)]; rfl)
    rw [e3]
    refine wp_putI (pc := 34) dX7_crash_34 fl_LevelStoreModel_93 (by first | assumption | exact Fx.ok (by assumption) (by decide)) rfl rfl (Or.inl rfl) ?_
    have hlt : (σ.log.take (σ.syn + x.toInt.toNat)).length = σ.syn + x.toInt.toNat := by rw [List.length_take]; omega
    have h2 : RM (σ.D (σ.log.take (σ.syn + x.toInt.toNat)) σ.syn σ.num σ.V) (ab_u2 J 39 1 (nI (σ.syn + x.toInt.toNat))) SL := by
      refine h1.setD (fun j hj => ?_) (fun k hk => ?_) ?_ ?_ ?_ ?_ (fun k hk => ?_)
      · simp only [List.mem_cons, List.not_mem_nil, or_false, not_or] at hj
        rw [ab_u2_r _ _ (by omega)]
      · simp only [List.mem_cons, List.not_mem_nil, or_false, not_or] at hk
        rw [ab_u2_n _ _ (Or.inr (by omega))]
      · rw [ab_u2_s, hlt]
      · intro j e he
        rw [ab_u2_r _ _ (by decide), ab_u2_r _ _ (by decide), ab_u2_r _ _ (by decide)]
        rw [List.getElem?_take] at he
        split at he
        · exact h1.lg.2 j e he
        · cases he
      · rw [ab_u2_n _ _ (Or.inr (by decide))]; exact h1.dt.1
      · rw [ab_u2_n _ _ (Or.inr (by decide))]; exact h1.dt.2.1
      · rw [ab_u2_r _ _ (by decide)]; exact h1.dt.2.2 k hk
    have hk2 : kC I (ab_u2 J 39 1 (nI (σ.syn + x.toInt.toNat))) := hk.tr (kC.u (by decide))
    first | refine wp_aload_n (pc := 37) dX7_crash_37 rfl ?_ | refine wp_aload_nN (pc := 37) dX7_crash_37 rfl ?_
    refine cv_LevelStoreModel_120 (pc := 38) (m_giveUp hX h2 h5 hnf) rfl dX7_crash_38 (by first | assumption | exact Fx.ok (by assumption) (by decide)) ⟨by decide, by decide, Nat.zero_le _, Nat.zero_le _⟩ (Nat.le_of_ble_eq_true rfl) (fun v h hp => ?_)
    obtain ⟨I3, SL3, rfl, rfl, hr, hk3⟩ := hp.out
    refine wp_pop (pc := 41) dX7_crash_41 rfl ?_
    have hs5 : SL3 5 = [] := List.eq_nil_of_length_eq_zero ((hr.sl.1 5 (Or.inr rfl)).1)
    have hcr : σ.crash x = (nI (σ.syn + x.toInt.toNat), (σ.cut2 (σ.syn + x.toInt.toNat)).D (σ.log.take (σ.syn + x.toInt.toNat)) σ.syn (gnum (σ.log.take (σ.syn + x.toInt.toNat)) σ.FS).toInt.toNat (noV σ.V)) := by unfold St.crash; rw [if_pos hok]
    rw [hcr]
    refine m_crash_42 hX hr (by show (σ.log.take _).length ≤ 24; omega) hs5 x (fun I4 hk4 hr4 => ⟨?_, I4, SL3, rfl, hr4, (hk2.tr hk3).tr hk4⟩) _ ⟨rfl, rfl, trivial⟩
    show some (Value.int (nI (σ.log.take _).length)) = _
    rw [hlt]
  · have hok := ite01 hc
    refine wp_ldc (pc := 24) (v := -1000002) dX7_crash_24 cn_LevelStoreModel_111 ?_
    refine wp_ret (pc := 26) dX7_crash_26 rfl (by first | trivial | exact Or.inl rfl | exact Or.inr rfl | assumption) ?_
    exact mP.id h1 (hB hok) hk
end M4
