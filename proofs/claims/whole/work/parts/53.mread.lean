/-! THE REFERENCE: reading -/
theorem slE_get {I : ab_II} {f m j : Nat} (hm : I 48 f = nI m) (hm2 : m ≤ 24) (hj : j < m) : (slE I f)[j]? = some (I 49 (30 * f + j), I 50 (30 * f + j), I 51 (30 * f + j)) := by
  unfold slE
  rw [hm, tI_n (by omega), Int.toNat_natCast, List.getElem?_map, List.getElem?_range hj]
  rfl
theorem i30 (f : Nat) : (30 : Int32) * nI f = nI (30 * f) := by
  rw [show (30 : Int32) = nI 30 by decide +kernel]
  exact pk_mul _ _
section M3
variable {σ : St} {n : Nat} {S : ab_SH} {R : ab_RR} {I : ab_II} {SL : Nat → List Nat}
theorem m_read_in (hX : Fx n S R) (key u : Int32) {f m : Nat} (hf : f < 330) (hlv : 0 ≤ (I 44 f).toInt ∧ (I 44 f).toInt ≤ 3) (hm : I 48 f = nI m) (hm2 : m ≤ 24) (hml : (slE I f).length = m) (p0 : Int32 × Int32) (post : ab_Po)
    (hpost : ∀ p : Int32 × Int32, p = (slE I f).foldl (rd1 key.toInt u.toInt) p0 → ∀ L, ab_sub L [(0, .ref 39), (1, .int key), (2, .int u), (3, .int p.1), (4, .int p.2), (5, .int (nI f))] → wp 1 25 0 0 MX7_read 184 L [] (n, S, R, I) post) :
    ∀ (d j : Nat) (p : Int32 × Int32) (z : Int32) (L : List (Nat × Value)), m = j + d → z = nI (30 * f + j) → p = ((slE I f).take j).foldl (rd1 key.toInt u.toInt) p0 → ab_sub L [(0, .ref 39), (1, .int key), (2, .int u), (3, .int p.1), (4, .int p.2), (5, .int (nI f)), (6, .int z)] → wp 1 25 0 0 MX7_read 92 L [] (n, S, R, I) post := by
  have z44 : (S 44).2 = 330 := hX.len (by decide)
  have z48 : (S 48).2 = 330 := hX.len (by decide)
  have z49 : (S 49).2 = 9900 := hX.len (by decide)
  have z50 : (S 50).2 = 9900 := hX.len (by decide)
  have z51 : (S 51).2 = 9900 := hX.len (by decide)
  have ef : (nI f).toInt = f := tI_n (by omega)
  have cf : (nI f).toNatClampNeg = f := nI_c (by omega)
  have elim : (30 : Int32) * nI f + nI m = nI (30 * f + m) := by rw [i30, nI_add]
  have elimI : (nI (30 * f + m)).toInt = ((30 * f + m : Nat) : Int) := tI_n (by omega)
  intro d
  induction d with
  | zero =>
    intro j p z L hj hz hp0 hL0
    refine wp_loc hL0 ?_
    have ez : z.toInt = ((30 * f + j : Nat) : Int) := by rw [hz, tI_n (by omega)]
    first | refine wp_aload_n (pc := 92) dX7_read_92 rfl ?_ | refine wp_aload_nN (pc := 92) dX7_read_92 rfl ?_
    refine wp_getR (pc := 93) dX7_read_93 fl_LevelStoreModel_22 (by first | assumption | exact Fx.ok (by assumption) (by decide)) rfl (by first | assumption | exact Fx.ref (by assumption) rfl) ?_
    refine wp_iload (pc := 96) dX7_read_96 rfl ?_
    refine wp_iaload (pc := 98) dX7_read_98 (by first | assumption | exact Fx.ok (by assumption) (by decide)) (in_I (by omega) (by rw [z44]; omega)) ?_
    rw [cf]
    refine wp_i2l (pc := 99) dX7_read_99 ?_
    refine wp_lconst (pc := 100) (v := 0) dX7_read_100 (by decide) ?_
    refine wp_ldc2 (pc := 101) (v := 3) dX7_read_101 cl2_LevelStoreModel_124 ?_
    refine cv_LevelStoreModel_103 (pc := 104) (s_inI (I 44 f) l64_0 l64_3) rfl dX7_read_104 ⟨by decide, by decide, Nat.zero_le _, Nat.zero_le _⟩ (Nat.le_of_ble_eq_true rfl) (fun v h hp => ?_)
    obtain ⟨rfl, rfl⟩ := hp
    refine wp_if_eq (pc := 107) (tgt := 184) dX7_read_107 (by decide) (fun hc => ?_) (fun hc => ?_)
    · exact absurd hlv (ite01 hc)
    · skip
      refine wp_iload (pc := 110) dX7_read_110 rfl ?_
      refine wp_bipush (pc := 112) (v := 30) dX7_read_112 (by decide) ?_
      refine wp_iload (pc := 114) dX7_read_114 rfl ?_
      refine wp_imul (pc := 116) dX7_read_116 ?_
      first | refine wp_aload_n (pc := 117) dX7_read_117 rfl ?_ | refine wp_aload_nN (pc := 117) dX7_read_117 rfl ?_
      refine wp_getR (pc := 118) dX7_read_118 fl_LevelStoreModel_34 (by first | assumption | exact Fx.ok (by assumption) (by decide)) rfl (by first | assumption | exact Fx.ref (by assumption) rfl) ?_
      refine wp_iload (pc := 121) dX7_read_121 rfl ?_
      refine wp_iaload (pc := 123) dX7_read_123 (by first | assumption | exact Fx.ok (by assumption) (by decide)) (in_I (by omega) (by rw [z48]; omega)) ?_
      rw [cf, hm]
      refine wp_iadd (pc := 124) dX7_read_124 ?_
      rw [elim]
      refine wp_icmp_ge (pc := 125) (tgt := 184) dX7_read_125 (by decide) (fun hc => ?_) (fun hc => ?_)
      · skip
        exact hpost p (by rw [hp0, List.take_of_length_le (by omega)]) _ ⟨rfl, rfl, rfl, rfl, rfl, rfl, trivial⟩
      · rw [elimI] at hc; omega
  | succ d ih =>
    intro j p z L hj hz hp0 hL0
    refine wp_loc hL0 ?_
    have ez : z.toInt = ((30 * f + j : Nat) : Int) := by rw [hz, tI_n (by omega)]
    have cz : z.toNatClampNeg = 30 * f + j := by rw [tI_c]; omega
    have eg := slE_get (I := I) (f := f) (m := m) (j := j) hm hm2 (by omega)
    have nxt : ∀ b v : Int32, (b, v) = rd1 key.toInt u.toInt p (I 49 (30 * f + j), I 50 (30 * f + j), I 51 (30 * f + j)) → wp 1 25 0 0 MX7_read 178 [(0, .ref 39), (1, .int key), (2, .int u), (3, .int b), (4, .int v), (5, .int (nI f)), (6, .int z)] [] (n, S, R, I) post := by
      intro b v hbv
      refine wp_iinc (pc := 178) dX7_read_178 rfl (by decide) rfl ?_
      refine wp_goto (pc := 181) (tgt := 92) dX7_read_181 (by decide) ?_
      exact ih (j + 1) (b, v) _ _ (by omega) (by rw [hz, show 30 * f + (j + 1) = 30 * f + j + 1 by omega]; exact nI_i1 _) (by rw [td_succ eg, List.foldl_append, ← hp0, hbv]; rfl) ⟨rfl, rfl, rfl, rfl, rfl, rfl, rfl, trivial⟩
    first | refine wp_aload_n (pc := 92) dX7_read_92 rfl ?_ | refine wp_aload_nN (pc := 92) dX7_read_92 rfl ?_
    refine wp_getR (pc := 93) dX7_read_93 fl_LevelStoreModel_22 (by first | assumption | exact Fx.ok (by assumption) (by decide)) rfl (by first | assumption | exact Fx.ref (by assumption) rfl) ?_
    refine wp_iload (pc := 96) dX7_read_96 rfl ?_
    refine wp_iaload (pc := 98) dX7_read_98 (by first | assumption | exact Fx.ok (by assumption) (by decide)) (in_I (by omega) (by rw [z44]; omega)) ?_
    rw [cf]
    refine wp_i2l (pc := 99) dX7_read_99 ?_
    refine wp_lconst (pc := 100) (v := 0) dX7_read_100 (by decide) ?_
    refine wp_ldc2 (pc := 101) (v := 3) dX7_read_101 cl2_LevelStoreModel_124 ?_
    refine cv_LevelStoreModel_103 (pc := 104) (s_inI (I 44 f) l64_0 l64_3) rfl dX7_read_104 ⟨by decide, by decide, Nat.zero_le _, Nat.zero_le _⟩ (Nat.le_of_ble_eq_true rfl) (fun v h hp => ?_)
    obtain ⟨rfl, rfl⟩ := hp
    refine wp_if_eq (pc := 107) (tgt := 184) dX7_read_107 (by decide) (fun hc => ?_) (fun hc => ?_)
    · exact absurd hlv (ite01 hc)
    · skip
      refine wp_iload (pc := 110) dX7_read_110 rfl ?_
      refine wp_bipush (pc := 112) (v := 30) dX7_read_112 (by decide) ?_
      refine wp_iload (pc := 114) dX7_read_114 rfl ?_
      refine wp_imul (pc := 116) dX7_read_116 ?_
      first | refine wp_aload_n (pc := 117) dX7_read_117 rfl ?_ | refine wp_aload_nN (pc := 117) dX7_read_117 rfl ?_
      refine wp_getR (pc := 118) dX7_read_118 fl_LevelStoreModel_34 (by first | assumption | exact Fx.ok (by assumption) (by decide)) rfl (by first | assumption | exact Fx.ref (by assumption) rfl) ?_
      refine wp_iload (pc := 121) dX7_read_121 rfl ?_
      refine wp_iaload (pc := 123) dX7_read_123 (by first | assumption | exact Fx.ok (by assumption) (by decide)) (in_I (by omega) (by rw [z48]; omega)) ?_
      rw [cf, hm]
      refine wp_iadd (pc := 124) dX7_read_124 ?_
      rw [elim]
      refine wp_icmp_ge (pc := 125) (tgt := 184) dX7_read_125 (by decide) (fun hc => ?_) (fun hc => ?_)
      · rw [elimI] at hc; omega
      · skip
        first | refine wp_aload_n (pc := 128) dX7_read_128 rfl ?_ | refine wp_aload_nN (pc := 128) dX7_read_128 rfl ?_
        refine wp_getR (pc := 129) dX7_read_129 fl_LevelStoreModel_37 (by first | assumption | exact Fx.ok (by assumption) (by decide)) rfl (by first | assumption | exact Fx.ref (by assumption) rfl) ?_
        refine wp_iload (pc := 132) dX7_read_132 rfl ?_
        refine wp_iaload (pc := 134) dX7_read_134 (by first | assumption | exact Fx.ok (by assumption) (by decide)) (in_I (by omega) (by rw [z49]; omega)) ?_
        rw [cz]
        refine wp_iload_n (pc := 135) dX7_read_135 rfl ?_
        refine wp_icmp_ne (pc := 136) (tgt := 178) dX7_read_136 (by decide) (fun hc => ?_) (fun hc => ?_)
        · have hr : rd1 key.toInt u.toInt p (I 49 (30 * f + j), I 50 (30 * f + j), I 51 (30 * f + j)) = p := by unfold rd1; exact if_neg (fun q => hc q.1)
          first
          | exact wp_loc (L' := [(0, .ref 39), (1, .int key), (2, .int u), (3, .int p.1), (4, .int p.2), (5, .int (nI f)), (6, .int z)]) ⟨rfl, rfl, rfl, rfl, rfl, rfl, rfl, trivial⟩ (nxt p.1 p.2 hr.symm)
          | exact wp_loc (L' := [(0, .ref 39), (1, .int key), (2, .int u), (3, .int (I 50 (30 * f + j))), (4, .int (I 51 (30 * f + j))), (5, .int (nI f)), (6, .int z)]) ⟨rfl, rfl, rfl, rfl, rfl, rfl, rfl, trivial⟩ (nxt _ _ hr.symm)
        · have hc1 := hc
          first | refine wp_aload_n (pc := 139) dX7_read_139 rfl ?_ | refine wp_aload_nN (pc := 139) dX7_read_139 rfl ?_
          refine wp_getR (pc := 140) dX7_read_140 fl_LevelStoreModel_40 (by first | assumption | exact Fx.ok (by assumption) (by decide)) rfl (by first | assumption | exact Fx.ref (by assumption) rfl) ?_
          refine wp_iload (pc := 143) dX7_read_143 rfl ?_
          refine wp_iaload (pc := 145) dX7_read_145 (by first | assumption | exact Fx.ok (by assumption) (by decide)) (in_I (by omega) (by rw [z50]; omega)) ?_
          rw [cz]
          refine wp_iload_n (pc := 146) dX7_read_146 rfl ?_
          refine wp_icmp_gt (pc := 147) (tgt := 178) dX7_read_147 (by decide) (fun hc => ?_) (fun hc => ?_)
          · have hr : rd1 key.toInt u.toInt p (I 49 (30 * f + j), I 50 (30 * f + j), I 51 (30 * f + j)) = p := by unfold rd1; exact if_neg (fun q => by have := q.2.1; dsimp only at this; omega)
            first
            | exact wp_loc (L' := [(0, .ref 39), (1, .int key), (2, .int u), (3, .int p.1), (4, .int p.2), (5, .int (nI f)), (6, .int z)]) ⟨rfl, rfl, rfl, rfl, rfl, rfl, rfl, trivial⟩ (nxt p.1 p.2 hr.symm)
            | exact wp_loc (L' := [(0, .ref 39), (1, .int key), (2, .int u), (3, .int (I 50 (30 * f + j))), (4, .int (I 51 (30 * f + j))), (5, .int (nI f)), (6, .int z)]) ⟨rfl, rfl, rfl, rfl, rfl, rfl, rfl, trivial⟩ (nxt _ _ hr.symm)
          · have hc2 := hc
            first | refine wp_aload_n (pc := 150) dX7_read_150 rfl ?_ | refine wp_aload_nN (pc := 150) dX7_read_150 rfl ?_
            refine wp_getR (pc := 151) dX7_read_151 fl_LevelStoreModel_40 (by first | assumption | exact Fx.ok (by assumption) (by decide)) rfl (by first | assumption | exact Fx.ref (by assumption) rfl) ?_
            refine wp_iload (pc := 154) dX7_read_154 rfl ?_
            refine wp_iaload (pc := 156) dX7_read_156 (by first | assumption | exact Fx.ok (by assumption) (by decide)) (in_I (by omega) (by rw [z50]; omega)) ?_
            rw [cz]
            refine wp_iload_n (pc := 157) dX7_read_157 rfl ?_
            refine wp_icmp_le (pc := 158) (tgt := 178) dX7_read_158 (by decide) (fun hc => ?_) (fun hc => ?_)
            · have hr : rd1 key.toInt u.toInt p (I 49 (30 * f + j), I 50 (30 * f + j), I 51 (30 * f + j)) = p := by unfold rd1; exact if_neg (fun q => by have := q.2.2; dsimp only at this; omega)
              first
              | exact wp_loc (L' := [(0, .ref 39), (1, .int key), (2, .int u), (3, .int p.1), (4, .int p.2), (5, .int (nI f)), (6, .int z)]) ⟨rfl, rfl, rfl, rfl, rfl, rfl, rfl, trivial⟩ (nxt p.1 p.2 hr.symm)
              | exact wp_loc (L' := [(0, .ref 39), (1, .int key), (2, .int u), (3, .int (I 50 (30 * f + j))), (4, .int (I 51 (30 * f + j))), (5, .int (nI f)), (6, .int z)]) ⟨rfl, rfl, rfl, rfl, rfl, rfl, rfl, trivial⟩ (nxt _ _ hr.symm)
            · have hr : rd1 key.toInt u.toInt p (I 49 (30 * f + j), I 50 (30 * f + j), I 51 (30 * f + j)) = (I 50 (30 * f + j), I 51 (30 * f + j)) := by unfold rd1; exact if_pos ⟨hc1, hc2, hc⟩
              first | refine wp_aload_n (pc := 161) dX7_read_161 rfl ?_ | refine wp_aload_nN (pc := 161) dX7_read_161 rfl ?_
              refine wp_getR (pc := 162) dX7_read_162 fl_LevelStoreModel_40 (by first | assumption | exact Fx.ok (by assumption) (by decide)) rfl (by first | assumption | exact Fx.ref (by assumption) rfl) ?_
              refine wp_iload (pc := 165) dX7_read_165 rfl ?_
              refine wp_iaload (pc := 167) dX7_read_167 (by first | assumption | exact Fx.ok (by assumption) (by decide)) (in_I (by omega) (by rw [z50]; omega)) ?_
              rw [cz]
              refine wp_istore_n (pc := 168) dX7_read_168 (by decide) rfl ?_
              first | refine wp_aload_n (pc := 169) dX7_read_169 rfl ?_ | refine wp_aload_nN (pc := 169) dX7_read_169 rfl ?_
              refine wp_getR (pc := 170) dX7_read_170 fl_LevelStoreModel_43 (by first | assumption | exact Fx.ok (by assumption) (by decide)) rfl (by first | assumption | exact Fx.ref (by assumption) rfl) ?_
              refine wp_iload (pc := 173) dX7_read_173 rfl ?_
              refine wp_iaload (pc := 175) dX7_read_175 (by first | assumption | exact Fx.ok (by assumption) (by decide)) (in_I (by omega) (by rw [z51]; omega)) ?_
              rw [cz]
              refine wp_istore (pc := 176) dX7_read_176 (by decide) rfl ?_
              first
              | exact wp_loc (L' := [(0, .ref 39), (1, .int key), (2, .int u), (3, .int p.1), (4, .int p.2), (5, .int (nI f)), (6, .int z)]) ⟨rfl, rfl, rfl, rfl, rfl, rfl, rfl, trivial⟩ (nxt p.1 p.2 hr.symm)
              | exact wp_loc (L' := [(0, .ref 39), (1, .int key), (2, .int u), (3, .int (I 50 (30 * f + j))), (4, .int (I 51 (30 * f + j))), (5, .int (nI f)), (6, .int z)]) ⟨rfl, rfl, rfl, rfl, rfl, rfl, rfl, trivial⟩ (nxt _ _ hr.symm)
theorem m_read_sl (hX : Fx n S R) (h : mSl σ I SL) (key u : Int32) (p0 : Int32 × Int32) (post : ab_Po)
    (hpost : ∀ p : Int32 × Int32, p = ((slT I pF 330).flatMap (slE I)).foldl (rd1 key.toInt u.toInt) p0 → post (some (.int p.2)) (n, S, R, I)) :
    ∀ (d t : Nat) (p : Int32 × Int32) (y : Int32) (L : List (Nat × Value)), 330 = t + d → y = nI t → p = ((slT I pF t).flatMap (slE I)).foldl (rd1 key.toInt u.toInt) p0 → ab_sub L [(0, .ref 39), (1, .int key), (2, .int u), (3, .int p.1), (4, .int p.2), (5, .int y)] → wp 1 25 0 0 MX7_read 77 L [] (n, S, R, I) post := by
  have z44 : (S 44).2 = 330 := hX.len (by decide)
  have t330 : (330 : Int32).toInt = 330 := by decide +kernel
  intro d
  induction d with
  | zero =>
    intro t p y L ht hy hp0 hL0
    refine wp_loc hL0 ?_
    have ey : y.toInt = t := by rw [hy, tI_n (by omega)]
    refine wp_iload (pc := 77) dX7_read_77 rfl ?_
    refine wp_sipush (pc := 79) (v := 330) dX7_read_79 (by decide) ?_
    refine wp_icmp_ge (pc := 82) (tgt := 190) dX7_read_82 (by decide) (fun hc => ?_) (fun hc => ?_)
    · skip
      refine wp_iload (pc := 190) dX7_read_190 rfl ?_
      refine wp_ret (pc := 192) dX7_read_192 rfl (by first | trivial | exact Or.inl rfl | exact Or.inr rfl | assumption) ?_
      exact hpost p (by rw [hp0, show t = 330 by omega])
    · rw [t330] at hc; omega
  | succ d ih =>
    intro t p y L ht hy hp0 hL0
    refine wp_loc hL0 ?_
    subst hy
    have ey : (nI t).toInt = t := tI_n (by omega)
    have cy : (nI t).toNatClampNeg = t := nI_c (by omega)
    have nxt : ∀ (q : Int32 × Int32) (L : List (Nat × Value)), q = ((slT I pF (t + 1)).flatMap (slE I)).foldl (rd1 key.toInt u.toInt) p0 → ab_sub L [(0, .ref 39), (1, .int key), (2, .int u), (3, .int q.1), (4, .int q.2), (5, .int (nI t))] → wp 1 25 0 0 MX7_read 184 L [] (n, S, R, I) post := by
      intro q L hq hL
      refine wp_loc hL ?_
      refine wp_iinc (pc := 184) dX7_read_184 rfl (by decide) rfl ?_
      refine wp_goto (pc := 187) (tgt := 77) dX7_read_187 (by decide) ?_
      exact ih (t + 1) q _ _ (by omega) (nI_i1 t) hq ⟨rfl, rfl, rfl, rfl, rfl, rfl, trivial⟩
    by_cases hlv : 0 ≤ (I 44 t).toInt ∧ (I 44 t).toInt ≤ 3
    · obtain ⟨m, hm2, hm, hml⟩ := h.many (f := t) (by omega) hlv.1
      have hp1 : pF (I 44 t) = true := decide_eq_true hlv
      refine wp_iload (pc := 77) dX7_read_77 rfl ?_
      refine wp_sipush (pc := 79) (v := 330) dX7_read_79 (by decide) ?_
      refine wp_icmp_ge (pc := 82) (tgt := 190) dX7_read_82 (by decide) (fun hc => ?_) (fun hc => ?_)
      · rw [t330] at hc; omega
      · skip
        refine wp_bipush (pc := 85) (v := 30) dX7_read_85 (by decide) ?_
        refine wp_iload (pc := 87) dX7_read_87 rfl ?_
        refine wp_imul (pc := 89) dX7_read_89 ?_
        rw [i30]
        refine wp_istore (pc := 90) dX7_read_90 (by decide) rfl ?_
        exact m_read_in hX key u (by omega) hlv hm hm2 hml p post (fun q hq L hL => nxt q L (by rw [hq, hp0, slT_y hp1, List.flatMap_append, List.foldl_append]; simp) hL) m 0 p _ _ (by omega) rfl rfl ⟨rfl, rfl, rfl, rfl, rfl, rfl, rfl, trivial⟩
    · have hp1 : pF (I 44 t) = false := decide_eq_false hlv
      refine wp_iload (pc := 77) dX7_read_77 rfl ?_
      refine wp_sipush (pc := 79) (v := 330) dX7_read_79 (by decide) ?_
      refine wp_icmp_ge (pc := 82) (tgt := 190) dX7_read_82 (by decide) (fun hc => ?_) (fun hc => ?_)
      · rw [t330] at hc; omega
      · skip
        refine wp_bipush (pc := 85) (v := 30) dX7_read_85 (by decide) ?_
        refine wp_iload (pc := 87) dX7_read_87 rfl ?_
        refine wp_imul (pc := 89) dX7_read_89 ?_
        refine wp_istore (pc := 90) dX7_read_90 (by decide) rfl ?_
        first | refine wp_aload_n (pc := 92) dX7_read_92 rfl ?_ | refine wp_aload_nN (pc := 92) dX7_read_92 rfl ?_
        refine wp_getR (pc := 93) dX7_read_93 fl_LevelStoreModel_22 (by first | assumption | exact Fx.ok (by assumption) (by decide)) rfl (by first | assumption | exact Fx.ref (by assumption) rfl) ?_
        refine wp_iload (pc := 96) dX7_read_96 rfl ?_
        refine wp_iaload (pc := 98) dX7_read_98 (by first | assumption | exact Fx.ok (by assumption) (by decide)) (in_I (by omega) (by rw [z44]; omega)) ?_
        rw [cy]
        refine wp_i2l (pc := 99) dX7_read_99 ?_
        refine wp_lconst (pc := 100) (v := 0) dX7_read_100 (by decide) ?_
        refine wp_ldc2 (pc := 101) (v := 3) dX7_read_101 cl2_LevelStoreModel_124 ?_
        refine cv_LevelStoreModel_103 (pc := 104) (s_inI (I 44 t) l64_0 l64_3) rfl dX7_read_104 ⟨by decide, by decide, Nat.zero_le _, Nat.zero_le _⟩ (Nat.le_of_ble_eq_true rfl) (fun v h hp => ?_)
        obtain ⟨rfl, rfl⟩ := hp
        refine wp_if_eq (pc := 107) (tgt := 184) dX7_read_107 (by decide) (fun hc => ?_) (fun hc => ?_)
        · skip
          exact nxt p _ (by rw [hp0, slT_n hp1]) ⟨rfl, rfl, rfl, rfl, rfl, rfl, trivial⟩
        · exact absurd (ite01n hc) hlv
theorem m_read_log (hX : Fx n S R) {log : List En} (hl : log.length ≤ 24) (h1 : I 39 1 = nI log.length) (h2 : arr3 I 40 41 42 0 log) (key u : Int32) (post : ab_Po)
    (hpost : ∀ p : Int32 × Int32, p = log.foldl (rd1 key.toInt u.toInt) (0, cNONE) → ∀ L, ab_sub L [(0, .ref 39), (1, .int key), (2, .int u), (3, .int p.1), (4, .int p.2)] → wp 1 25 0 0 MX7_read 74 L [] (n, S, R, I) post) :
    ∀ (d t : Nat) (p : Int32 × Int32) (y : Int32) (L : List (Nat × Value)), log.length = t + d → y = nI t → p = (log.take t).foldl (rd1 key.toInt u.toInt) (0, cNONE) → ab_sub L [(0, .ref 39), (1, .int key), (2, .int u), (3, .int p.1), (4, .int p.2), (5, .int y)] → wp 1 25 0 0 MX7_read 9 L [] (n, S, R, I) post := by
  have z40 : (S 40).2 = 24 := hX.len (by decide)
  have z41 : (S 41).2 = 24 := hX.len (by decide)
  have z42 : (S 42).2 = 24 := hX.len (by decide)
  have e1 : (I 39 1).toInt = log.length := by rw [h1, tI_n (by omega)]
  intro d
  induction d with
  | zero =>
    intro t p y L ht hy hp0 hL0
    refine wp_loc hL0 ?_
    have ey : y.toInt = t := by rw [hy, tI_n (by omega)]
    refine wp_iload (pc := 9) dX7_read_9 rfl ?_
    first | refine wp_aload_n (pc := 11) dX7_read_11 rfl ?_ | refine wp_aload_nN (pc := 11) dX7_read_11 rfl ?_
    refine wp_getI (pc := 12) dX7_read_12 fl_LevelStoreModel_93 (by first | assumption | exact Fx.ok (by assumption) (by decide)) rfl ?_
    refine wp_icmp_ge (pc := 15) (tgt := 74) dX7_read_15 (by decide) (fun hc => ?_) (fun hc => ?_)
    · skip
      exact hpost p (by rw [hp0, List.take_of_length_le (by omega)]) _ ⟨rfl, rfl, rfl, rfl, rfl, trivial⟩
    · omega
  | succ d ih =>
    intro t p y L ht hy hp0 hL0
    refine wp_loc hL0 ?_
    have ey : y.toInt = t := by rw [hy, tI_n (by omega)]
    have cy : y.toNatClampNeg = t := by rw [tI_c]; omega
    have eg : log[t]? = some log[t] := List.getElem?_eq_getElem (by omega)
    obtain ⟨a1, a2, a3⟩ := h2 t _ eg
    rw [Nat.zero_add] at a1 a2 a3
    have nxt : ∀ b v : Int32, (b, v) = rd1 key.toInt u.toInt p log[t] → wp 1 25 0 0 MX7_read 68 [(0, .ref 39), (1, .int key), (2, .int u), (3, .int b), (4, .int v), (5, .int y)] [] (n, S, R, I) post := by
      intro b v hbv
      refine wp_iinc (pc := 68) dX7_read_68 rfl (by decide) rfl ?_
      refine wp_goto (pc := 71) (tgt := 9) dX7_read_71 (by decide) ?_
      exact ih (t + 1) (b, v) _ _ (by omega) (by rw [hy]; exact nI_i1 _) (by rw [td_succ eg, List.foldl_append, ← hp0, hbv]; rfl) ⟨rfl, rfl, rfl, rfl, rfl, rfl, trivial⟩
    refine wp_iload (pc := 9) dX7_read_9 rfl ?_
    first | refine wp_aload_n (pc := 11) dX7_read_11 rfl ?_ | refine wp_aload_nN (pc := 11) dX7_read_11 rfl ?_
    refine wp_getI (pc := 12) dX7_read_12 fl_LevelStoreModel_93 (by first | assumption | exact Fx.ok (by assumption) (by decide)) rfl ?_
    refine wp_icmp_ge (pc := 15) (tgt := 74) dX7_read_15 (by decide) (fun hc => ?_) (fun hc => ?_)
    · omega
    · skip
      first | refine wp_aload_n (pc := 18) dX7_read_18 rfl ?_ | refine wp_aload_nN (pc := 18) dX7_read_18 rfl ?_
      refine wp_getR (pc := 19) dX7_read_19 fl_LevelStoreModel_7 (by first | assumption | exact Fx.ok (by assumption) (by decide)) rfl (by first | assumption | exact Fx.ref (by assumption) rfl) ?_
      refine wp_iload (pc := 22) dX7_read_22 rfl ?_
      refine wp_iaload (pc := 24) dX7_read_24 (by first | assumption | exact Fx.ok (by assumption) (by decide)) (in_I (by omega) (by rw [z40]; omega)) ?_
      rw [cy, a1]
      refine wp_iload_n (pc := 25) dX7_read_25 rfl ?_
      refine wp_icmp_ne (pc := 26) (tgt := 68) dX7_read_26 (by decide) (fun hc => ?_) (fun hc => ?_)
      · have hr : rd1 key.toInt u.toInt p log[t] = p := by unfold rd1; exact if_neg (fun q => hc q.1)
        first
        | exact wp_loc (L' := [(0, .ref 39), (1, .int key), (2, .int u), (3, .int p.1), (4, .int p.2), (5, .int y)]) ⟨rfl, rfl, rfl, rfl, rfl, rfl, trivial⟩ (nxt p.1 p.2 hr.symm)
        | exact wp_loc (L' := [(0, .ref 39), (1, .int key), (2, .int u), (3, .int (log[t]).2.1), (4, .int (log[t]).2.2), (5, .int y)]) ⟨rfl, rfl, rfl, rfl, rfl, rfl, trivial⟩ (nxt _ _ hr.symm)
      · have hc1 := hc
        first | refine wp_aload_n (pc := 29) dX7_read_29 rfl ?_ | refine wp_aload_nN (pc := 29) dX7_read_29 rfl ?_
        refine wp_getR (pc := 30) dX7_read_30 fl_LevelStoreModel_13 (by first | assumption | exact Fx.ok (by assumption) (by decide)) rfl (by first | assumption | exact Fx.ref (by assumption) rfl) ?_
        refine wp_iload (pc := 33) dX7_read_33 rfl ?_
        refine wp_iaload (pc := 35) dX7_read_35 (by first | assumption | exact Fx.ok (by assumption) (by decide)) (in_I (by omega) (by rw [z41]; omega)) ?_
        rw [cy, a2]
        refine wp_iload_n (pc := 36) dX7_read_36 rfl ?_
        refine wp_icmp_gt (pc := 37) (tgt := 68) dX7_read_37 (by decide) (fun hc => ?_) (fun hc => ?_)
        · have hr : rd1 key.toInt u.toInt p log[t] = p := by unfold rd1; exact if_neg (fun q => by have := q.2.1; omega)
          first
          | exact wp_loc (L' := [(0, .ref 39), (1, .int key), (2, .int u), (3, .int p.1), (4, .int p.2), (5, .int y)]) ⟨rfl, rfl, rfl, rfl, rfl, rfl, trivial⟩ (nxt p.1 p.2 hr.symm)
          | exact wp_loc (L' := [(0, .ref 39), (1, .int key), (2, .int u), (3, .int (log[t]).2.1), (4, .int (log[t]).2.2), (5, .int y)]) ⟨rfl, rfl, rfl, rfl, rfl, rfl, trivial⟩ (nxt _ _ hr.symm)
        · have hc2 := hc
          first | refine wp_aload_n (pc := 40) dX7_read_40 rfl ?_ | refine wp_aload_nN (pc := 40) dX7_read_40 rfl ?_
          refine wp_getR (pc := 41) dX7_read_41 fl_LevelStoreModel_13 (by first | assumption | exact Fx.ok (by assumption) (by decide)) rfl (by first | assumption | exact Fx.ref (by assumption) rfl) ?_
          refine wp_iload (pc := 44) dX7_read_44 rfl ?_
          refine wp_iaload (pc := 46) dX7_read_46 (by first | assumption | exact Fx.ok (by assumption) (by decide)) (in_I (by omega) (by rw [z41]; omega)) ?_
          rw [cy, a2]
          refine wp_iload_n (pc := 47) dX7_read_47 rfl ?_
          refine wp_icmp_le (pc := 48) (tgt := 68) dX7_read_48 (by decide) (fun hc => ?_) (fun hc => ?_)
          · have hr : rd1 key.toInt u.toInt p log[t] = p := by unfold rd1; exact if_neg (fun q => by have := q.2.2; omega)
            first
            | exact wp_loc (L' := [(0, .ref 39), (1, .int key), (2, .int u), (3, .int p.1), (4, .int p.2), (5, .int y)]) ⟨rfl, rfl, rfl, rfl, rfl, rfl, trivial⟩ (nxt p.1 p.2 hr.symm)
            | exact wp_loc (L' := [(0, .ref 39), (1, .int key), (2, .int u), (3, .int (log[t]).2.1), (4, .int (log[t]).2.2), (5, .int y)]) ⟨rfl, rfl, rfl, rfl, rfl, rfl, trivial⟩ (nxt _ _ hr.symm)
          · have hr : rd1 key.toInt u.toInt p log[t] = ((log[t]).2.1, (log[t]).2.2) := by unfold rd1; exact if_pos ⟨hc1, hc2, hc⟩
            first | refine wp_aload_n (pc := 51) dX7_read_51 rfl ?_ | refine wp_aload_nN (pc := 51) dX7_read_51 rfl ?_
            refine wp_getR (pc := 52) dX7_read_52 fl_LevelStoreModel_13 (by first | assumption | exact Fx.ok (by assumption) (by decide)) rfl (by first | assumption | exact Fx.ref (by assumption) rfl) ?_
            refine wp_iload (pc := 55) dX7_read_55 rfl ?_
            refine wp_iaload (pc := 57) dX7_read_57 (by first | assumption | exact Fx.ok (by assumption) (by decide)) (in_I (by omega) (by rw [z41]; omega)) ?_
            rw [cy, a2]
            refine wp_istore_n (pc := 58) dX7_read_58 (by decide) rfl ?_
            first | refine wp_aload_n (pc := 59) dX7_read_59 rfl ?_ | refine wp_aload_nN (pc := 59) dX7_read_59 rfl ?_
            refine wp_getR (pc := 60) dX7_read_60 fl_LevelStoreModel_16 (by first | assumption | exact Fx.ok (by assumption) (by decide)) rfl (by first | assumption | exact Fx.ref (by assumption) rfl) ?_
            refine wp_iload (pc := 63) dX7_read_63 rfl ?_
            refine wp_iaload (pc := 65) dX7_read_65 (by first | assumption | exact Fx.ok (by assumption) (by decide)) (in_I (by omega) (by rw [z42]; omega)) ?_
            rw [cy, a3]
            refine wp_istore (pc := 66) dX7_read_66 (by decide) rfl ?_
            first
            | exact wp_loc (L' := [(0, .ref 39), (1, .int key), (2, .int u), (3, .int p.1), (4, .int p.2), (5, .int y)]) ⟨rfl, rfl, rfl, rfl, rfl, rfl, trivial⟩ (nxt p.1 p.2 hr.symm)
            | exact wp_loc (L' := [(0, .ref 39), (1, .int key), (2, .int u), (3, .int (log[t]).2.1), (4, .int (log[t]).2.2), (5, .int y)]) ⟨rfl, rfl, rfl, rfl, rfl, rfl, trivial⟩ (nxt _ _ hr.symm)
theorem m_read_74 (hX : Fx n S R) (key u : Int32) (p : Int32 × Int32) (post : ab_Po) (hk : ∀ L, ab_sub L [(0, .ref 39), (1, .int key), (2, .int u), (3, .int p.1), (4, .int p.2), (5, .int 0)] → wp 1 25 0 0 MX7_read 77 L [] (n, S, R, I) post) (L : List (Nat × Value)) (hL : ab_sub L [(0, .ref 39), (1, .int key), (2, .int u), (3, .int p.1), (4, .int p.2)]) : wp 1 25 0 0 MX7_read 74 L [] (n, S, R, I) post := by
  refine wp_loc hL ?_
  refine wp_iconst (pc := 74) (v := 0) dX7_read_74 (by decide) ?_
  refine wp_istore (pc := 75) dX7_read_75 (by decide) rfl ?_
  exact hk _ ⟨rfl, rfl, rfl, rfl, rfl, rfl, trivial⟩
theorem isRead.congr {l l' : List En} {k u : Int} {v : Int32} (h : isRead l k u v) (hm : ∀ e, e ∈ l ↔ e ∈ l') : isRead l' k u v := by
  rcases h with ⟨e, h1, h2, h3, h4, h5, h6⟩ | ⟨h1, h2⟩
  · exact Or.inl ⟨e, (hm e).mp h1, h2, h3, h4, fun e' q => h5 e' ((hm e').mpr q), h6⟩
  · exact Or.inr ⟨fun e q => h1 e ((hm e).mpr q), h2⟩
theorem m_read (hX : Fx n S R) (h : RM σ I SL) (hl : σ.log.length ≤ 24) (hu : uqN (allE σ)) (key u : Int32) : wp 1 25 0 0 MX7_read 0 [(0, .ref 39), (1, .int key), (2, .int u)] [] (n, S, R, I) (fun v h => h = (n, S, R, I) ∧ v = some (.int (readV (allE σ) key.toInt u.toInt))) := by
  refine wp_iconst (pc := 0) (v := 0) dX7_read_0 (by decide) ?_
  refine wp_istore_n (pc := 1) dX7_read_1 (by decide) rfl ?_
  refine wp_ldc (pc := 2) (v := -1000009) dX7_read_2 cn_LevelStoreModel_116 ?_
  refine wp_istore (pc := 4) dX7_read_4 (by decide) rfl ?_
  refine wp_iconst (pc := 6) (v := 0) dX7_read_6 (by decide) ?_
  refine wp_istore (pc := 7) dX7_read_7 (by decide) rfl ?_
  refine m_read_log hX hl h.lg.1 h.lg.2 key u _ (fun p hp L hL => m_read_74 hX key u p _ (fun L2 hL2 => m_read_sl hX h.sl key u p _ (fun q hq => ⟨rfl, ?_⟩) 330 0 p _ _ rfl rfl rfl hL2) L hL) σ.log.length 0 (0, cNONE) _ _ (by omega) rfl rfl ⟨rfl, rfl, rfl, rfl, rfl, rfl, trivial⟩
  rw [hp, ← List.foldl_append] at hq
  have hr : isRead (σ.log ++ (slT I pF 330).flatMap (slE I)) key.toInt u.toInt q.2 := by rw [hq]; exact (isRd_all key.toInt u.toInt _).read
  have hr2 : isRead (allE σ) key.toInt u.toInt q.2 := hr.congr (fun e => by unfold allE; rw [List.mem_append, List.mem_append, h.sl.permE.mem_iff])
  rw [readV_eq hu hr2]
theorem m_get (hX : Fx n S R) (h : RM σ I SL) (hl : σ.log.length ≤ 24) (hu : uqN (allE σ)) (hn : σ.num ≤ 60000) (hm : ∀ e ∈ allE σ, e.2.1.toInt ≤ σ.num) (k : Int32) : wp 2 51 0 0 MX7_get 0 [(0, .ref 39), (1, .int k)] [] (n, S, R, I) (mP I n S R (σ.get k)) := by
  have t6 : (60000 : Int32).toInt = 60000 := by decide +kernel
  first | refine wp_aload_n (pc := 0) dX7_get_0 rfl ?_ | refine wp_aload_nN (pc := 0) dX7_get_0 rfl ?_
  refine wp_iconst (pc := 1) (v := 0) dX7_get_1 (by decide) ?_
  refine wp_putI (pc := 2) dX7_get_2 fl_LevelStoreModel_89 (by first | assumption | exact Fx.ok (by assumption) (by decide)) rfl rfl (Or.inl rfl) ?_
  have h1 := h.z
  have hk := kC.z (I := I)
  generalize ab_u2 I 39 0 0 = J at h1 hk ⊢
  refine wp_iload_n (pc := 5) dX7_get_5 rfl ?_
  refine wp_i2l (pc := 6) dX7_get_6 ?_
  refine wp_lconst (pc := 7) (v := 0) dX7_get_7 (by decide) ?_
  refine wp_ldc2 (pc := 8) (v := 999) dX7_get_8 cl2_LevelStoreModel_101 ?_
  refine cv_LevelStoreModel_103 (pc := 11) (s_inI k l64_0 l64_999) rfl dX7_get_11 ⟨by decide, by decide, Nat.zero_le _, Nat.zero_le _⟩ (Nat.le_of_ble_eq_true rfl) (fun v h hp => ?_)
  obtain ⟨rfl, rfl⟩ := hp
  refine wp_if_eq (pc := 14) (tgt := 27) dX7_get_14 (by decide) (fun hc => ?_) (fun hc => ?_)
  · have hb := ite01 hc
    have hw : σ.get k = (cBAD, σ) := by unfold St.get; rw [if_neg hb]
    refine wp_ldc (pc := 27) (v := -1000002) dX7_get_27 cn_LevelStoreModel_111 ?_
    refine wp_ret (pc := 29) dX7_get_29 rfl (by first | trivial | exact Or.inl rfl | exact Or.inr rfl | assumption) ?_
    exact mP.id h1 hw hk
  · have hb := ite01n hc
    have hw : σ.get k = (readV (allE σ) k.toInt (60000 : Int32).toInt, σ) := by unfold St.get; rw [if_pos hb, t6, readV_top hu hm (show (σ.num : Int) ≤ 60000 by omega)]
    first | refine wp_aload_n (pc := 17) dX7_get_17 rfl ?_ | refine wp_aload_nN (pc := 17) dX7_get_17 rfl ?_
    refine wp_iload_n (pc := 18) dX7_get_18 rfl ?_
    refine wp_ldc (pc := 19) (v := 60000) dX7_get_19 cn_LevelStoreModel_99 ?_
    refine cv_LevelStoreModel_128 (pc := 21) (m_read hX h1 hl hu k 60000) rfl dX7_get_21 (by first | assumption | exact Fx.ok (by assumption) (by decide)) ⟨by decide, by decide, Nat.zero_le _, Nat.zero_le _⟩ (Nat.le_of_ble_eq_true rfl) (fun v h hp => ?_)
    obtain ⟨rfl, rfl⟩ := hp
    refine wp_goto (pc := 24) (tgt := 29) dX7_get_24 (by decide) ?_
    refine wp_ret (pc := 29) dX7_get_29 rfl (by first | trivial | exact Or.inl rfl | exact Or.inr rfl | assumption) ?_
    exact mP.id h1 hw hk
theorem m_view (hX : Fx n S R) (h : RM σ I SL) (hl : σ.log.length ≤ 24) (hu : uqN (allE σ)) (hV : vOK σ.V) (v k : Int32) : wp 2 51 0 0 MX7_view 0 [(0, .ref 39), (1, .int v), (2, .int k)] [] (n, S, R, I) (mP I n S R (σ.view v k)) := by
  have z : (S 43).2 = 3 := hX.len (by decide)
  first | refine wp_aload_n (pc := 0) dX7_view_0 rfl ?_ | refine wp_aload_nN (pc := 0) dX7_view_0 rfl ?_
  refine wp_iconst (pc := 1) (v := 0) dX7_view_1 (by decide) ?_
  refine wp_putI (pc := 2) dX7_view_2 fl_LevelStoreModel_89 (by first | assumption | exact Fx.ok (by assumption) (by decide)) rfl rfl (Or.inl rfl) ?_
  have h1 := h.z
  have hk := kC.z (I := I)
  generalize ab_u2 I 39 0 0 = J at h1 hk ⊢
  first | refine wp_aload_n (pc := 5) dX7_view_5 rfl ?_ | refine wp_aload_nN (pc := 5) dX7_view_5 rfl ?_
  refine wp_iload_n (pc := 6) dX7_view_6 rfl ?_
  refine cv_LevelStoreModel_131 (pc := 7) (m_noView hX h1 hV v) rfl dX7_view_7 (by first | assumption | exact Fx.ok (by assumption) (by decide)) ⟨by decide, by decide, Nat.zero_le _, Nat.zero_le _⟩ (Nat.le_of_ble_eq_true rfl) (fun v h hp => ?_)
  obtain ⟨rfl, rfl⟩ := hp
  refine wp_if_eq (pc := 10) (tgt := 18) dX7_view_10 (by decide) (fun hc => ?_) (fun hc => ?_)
  · have hh : σ.held v := Decidable.byContradiction fun q => by rw [if_neg q] at hc; exact absurd hc (by decide)
    have hb : 0 ≤ v.toInt ∧ v.toInt ≤ 2 := ⟨hh.1.1, by have := hh.1.2; omega⟩
    refine wp_iload_n (pc := 18) dX7_view_18 rfl ?_
    refine wp_i2l (pc := 19) dX7_view_19 ?_
    refine wp_lconst (pc := 20) (v := 0) dX7_view_20 (by decide) ?_
    refine wp_ldc2 (pc := 21) (v := 999) dX7_view_21 cl2_LevelStoreModel_101 ?_
    refine cv_LevelStoreModel_103 (pc := 24) (s_inI k l64_0 l64_999) rfl dX7_view_24 ⟨by decide, by decide, Nat.zero_le _, Nat.zero_le _⟩ (Nat.le_of_ble_eq_true rfl) (fun v h hp => ?_)
    obtain ⟨rfl, rfl⟩ := hp
    refine wp_if_eq (pc := 27) (tgt := 44) dX7_view_27 (by decide) (fun hc => ?_) (fun hc => ?_)
    · have hb2 := ite01 hc
      have hw : σ.view v k = (cBAD, σ) := by unfold St.view; rw [if_pos hh, if_neg hb2]
      refine wp_ldc (pc := 44) (v := -1000002) dX7_view_44 cn_LevelStoreModel_111 ?_
      refine wp_ret (pc := 46) dX7_view_46 rfl (by first | trivial | exact Or.inl rfl | exact Or.inr rfl | assumption) ?_
      exact mP.id h1 hw hk
    · have hb2 := ite01n hc
      have hw : σ.view v k = (readV (allE σ) k.toInt (σ.V v.toInt.toNat).toInt, σ) := by unfold St.view; rw [if_pos hh, if_pos hb2]
      first | refine wp_aload_n (pc := 30) dX7_view_30 rfl ?_ | refine wp_aload_nN (pc := 30) dX7_view_30 rfl ?_
      refine wp_iload_n (pc := 31) dX7_view_31 rfl ?_
      first | refine wp_aload_n (pc := 32) dX7_view_32 rfl ?_ | refine wp_aload_nN (pc := 32) dX7_view_32 rfl ?_
      refine wp_getR (pc := 33) dX7_view_33 fl_LevelStoreModel_19 (by first | assumption | exact Fx.ok (by assumption) (by decide)) rfl (by first | assumption | exact Fx.ref (by assumption) rfl) ?_
      refine wp_iload_n (pc := 36) dX7_view_36 rfl ?_
      refine wp_iaload (pc := 37) dX7_view_37 (by first | assumption | exact Fx.ok (by assumption) (by decide)) (in_I (by omega) (by rw [z]; omega)) ?_
      rw [tI_c, h1.dt.2.2 _ (isV_c hb).2]
      refine cv_LevelStoreModel_128 (pc := 38) (m_read hX h1 hl hu k (σ.V v.toInt.toNat)) rfl dX7_view_38 (by first | assumption | exact Fx.ok (by assumption) (by decide)) ⟨by decide, by decide, Nat.zero_le _, Nat.zero_le _⟩ (Nat.le_of_ble_eq_true rfl) (fun v h hp => ?_)
      obtain ⟨rfl, rfl⟩ := hp
      refine wp_goto (pc := 41) (tgt := 46) dX7_view_41 (by decide) ?_
      refine wp_ret (pc := 46) dX7_view_46 rfl (by first | trivial | exact Or.inl rfl | exact Or.inr rfl | assumption) ?_
      exact mP.id h1 hw hk
  · have hh : ¬ σ.held v := fun q => by rw [if_pos q] at hc; exact hc rfl
    have hw : σ.view v k = (cUNK, σ) := by unfold St.view; rw [if_neg hh]
    refine wp_ldc (pc := 13) (v := -1000001) dX7_view_13 cn_LevelStoreModel_135 ?_
    refine wp_goto (pc := 15) (tgt := 46) dX7_view_15 (by decide) ?_
    refine wp_ret (pc := 46) dX7_view_46 rfl (by first | trivial | exact Or.inl rfl | exact Or.inr rfl | assumption) ?_
    exact mP.id h1 hw hk
theorem m_next_loop (hX : Fx n S R) (h : RM σ I SL) (hl : σ.log.length ≤ 24) (hu : uqN (allE σ)) (v k u : Int32) {m : Nat} (post : ab_Po) (hpost : ∀ x, isNext (allE σ) m u.toInt x → post (some (.int x)) (n, S, R, I)) :
    ∀ (d t : Nat) (y : Int32) (L : List (Nat × Value)), 1000 = t + d → y = nI t → m ≤ t → (∀ i : Nat, m ≤ i → i < t → readV (allE σ) i u.toInt = cNONE) → ab_sub L [(0, .ref 39), (1, .int v), (2, .int k), (3, .int u), (4, .int y)] → wp 2 51 0 0 MX7_next 56 L [] (n, S, R, I) post := by
  have t1000 : (1000 : Int32).toInt = 1000 := by decide +kernel
  intro d
  induction d with
  | zero =>
    intro t y L ht hy hmt hno hL0
    refine wp_loc hL0 ?_
    have ey : y.toInt = t := by rw [hy, tI_n (by omega)]
    refine wp_iload (pc := 56) dX7_next_56 rfl ?_
    refine wp_sipush (pc := 58) (v := 1000) dX7_next_58 (by decide) ?_
    refine wp_icmp_ge (pc := 61) (tgt := 85) dX7_next_61 (by decide) (fun hc => ?_) (fun hc => ?_)
    · skip
      refine wp_ldc (pc := 85) (v := -1000009) dX7_next_85 cn_LevelStoreModel_116 ?_
      refine wp_ret (pc := 87) dX7_next_87 rfl (by first | trivial | exact Or.inl rfl | exact Or.inr rfl | assumption) ?_
      exact hpost _ (Or.inr ⟨fun i h1 h2 => hno i (by omega) (by omega), rfl⟩)
    · rw [t1000] at hc; omega
  | succ d ih =>
    intro t y L ht hy hmt hno hL0
    refine wp_loc hL0 ?_
    have ey : y.toInt = t := by rw [hy, tI_n (by omega)]
    refine wp_iload (pc := 56) dX7_next_56 rfl ?_
    refine wp_sipush (pc := 58) (v := 1000) dX7_next_58 (by decide) ?_
    refine wp_icmp_ge (pc := 61) (tgt := 85) dX7_next_61 (by decide) (fun hc => ?_) (fun hc => ?_)
    · rw [t1000] at hc; omega
    · skip
      first | refine wp_aload_n (pc := 64) dX7_next_64 rfl ?_ | refine wp_aload_nN (pc := 64) dX7_next_64 rfl ?_
      refine wp_iload (pc := 65) dX7_next_65 rfl ?_
      refine wp_iload_n (pc := 67) dX7_next_67 rfl ?_
      refine cv_LevelStoreModel_128 (pc := 68) (m_read hX h hl hu y u) rfl dX7_next_68 (by first | assumption | exact Fx.ok (by assumption) (by decide)) ⟨by decide, by decide, Nat.zero_le _, Nat.zero_le _⟩ (Nat.le_of_ble_eq_true rfl) (fun v h hp => ?_)
      obtain ⟨rfl, rfl⟩ := hp
      rw [ey]
      refine wp_ldc (pc := 71) (v := -1000009) dX7_next_71 cn_LevelStoreModel_116 ?_
      refine wp_icmp_eq (pc := 73) (tgt := 79) dX7_next_73 (by decide) (fun hc => ?_) (fun hc => ?_)
      · have hN : readV (allE σ) t u.toInt = cNONE := tI_eq hc
        refine wp_iinc (pc := 79) dX7_next_79 rfl (by decide) rfl ?_
        refine wp_goto (pc := 82) (tgt := 56) dX7_next_82 (by decide) ?_
        exact ih (t + 1) _ _ (by omega) (by rw [hy]; exact nI_i1 t) (by omega) (fun i h1 h2 => by by_cases q : i = t; (rw [q]; exact hN); exact hno i h1 (by omega)) ⟨rfl, rfl, rfl, rfl, rfl, trivial⟩
      · have hN : readV (allE σ) t u.toInt ≠ cNONE := fun q => hc (by rw [q])
        refine wp_iload (pc := 76) dX7_next_76 rfl ?_
        refine wp_ret (pc := 78) dX7_next_78 rfl (by first | trivial | exact Or.inl rfl | exact Or.inr rfl | assumption) ?_
        rw [hy]; exact hpost _ (Or.inl ⟨t, by omega, by omega, hN, fun i h1 h2 => hno i (by omega) h2, rfl⟩)
theorem m_next (hX : Fx n S R) (h : RM σ I SL) (hl : σ.log.length ≤ 24) (hu : uqN (allE σ)) (hn : σ.num ≤ 60000) (hm : ∀ e ∈ allE σ, e.2.1.toInt ≤ σ.num) (hV : vOK σ.V) (v k : Int32) : wp 2 51 0 0 MX7_next 0 [(0, .ref 39), (1, .int v), (2, .int k)] [] (n, S, R, I) (mP I n S R (σ.next v k)) := by
  have z : (S 43).2 = 3 := hX.len (by decide)
  have t6 : (60000 : Int32).toInt = 60000 := by decide +kernel
  have hRt : ∀ j : Int, readV (allE σ) j σ.num = readV (allE σ) j (60000 : Int32).toInt := fun j => by rw [t6]; exact readV_top hu hm (by omega)
  first | refine wp_aload_n (pc := 0) dX7_next_0 rfl ?_ | refine wp_aload_nN (pc := 0) dX7_next_0 rfl ?_
  refine wp_iconst (pc := 1) (v := 0) dX7_next_1 (by decide) ?_
  refine wp_putI (pc := 2) dX7_next_2 fl_LevelStoreModel_89 (by first | assumption | exact Fx.ok (by assumption) (by decide)) rfl rfl (Or.inl rfl) ?_
  have h1 := h.z
  have hk := kC.z (I := I)
  generalize ab_u2 I 39 0 0 = J at h1 hk ⊢
  refine wp_iload_n (pc := 5) dX7_next_5 rfl ?_
  refine wp_iconst (pc := 6) (v := -1) dX7_next_6 (by decide) ?_
  refine wp_icmp_eq (pc := 7) (tgt := 21) dX7_next_7 (by decide) (fun hc => ?_) (fun hc => ?_)
  · rw [tl_m1] at hc
    have hok : v.toInt = -1 ∨ σ.held v := Or.inl hc
    refine wp_iload_n (pc := 21) dX7_next_21 rfl ?_
    refine wp_i2l (pc := 22) dX7_next_22 ?_
    refine wp_lconst (pc := 23) (v := 0) dX7_next_23 (by decide) ?_
    refine wp_ldc2 (pc := 24) (v := 999) dX7_next_24 cl2_LevelStoreModel_101 ?_
    refine cv_LevelStoreModel_103 (pc := 27) (s_inI k l64_0 l64_999) rfl dX7_next_27 ⟨by decide, by decide, Nat.zero_le _, Nat.zero_le _⟩ (Nat.le_of_ble_eq_true rfl) (fun v h hp => ?_)
    obtain ⟨rfl, rfl⟩ := hp
    refine wp_if_ne (pc := 30) (tgt := 36) dX7_next_30 (by decide) (fun hc => ?_) (fun hc => ?_)
    · have hb2 := ite01n hc
      obtain ⟨m, hkm⟩ : ∃ m : Nat, k.toInt = m := ⟨k.toInt.toNat, by omega⟩
      refine wp_iload_n (pc := 36) dX7_next_36 rfl ?_
      refine wp_iconst (pc := 37) (v := -1) dX7_next_37 (by decide) ?_
      refine wp_icmp_ne (pc := 38) (tgt := 46) dX7_next_38 (by decide) (fun hc => ?_) (fun hc => ?_)
      · rw [tl_m1] at hc
        have hh : σ.held v := hok.resolve_left hc
        have hb : 0 ≤ v.toInt ∧ v.toInt ≤ 2 := ⟨hh.1.1, by have := hh.1.2; omega⟩
        have hw : σ.next v k = (nextV (allE σ) k.toInt (σ.V v.toInt.toNat).toInt, σ) := by unfold St.next; rw [if_pos hok, if_pos hb2, if_neg hc]
        first | refine wp_aload_n (pc := 46) dX7_next_46 rfl ?_ | refine wp_aload_nN (pc := 46) dX7_next_46 rfl ?_
        refine wp_getR (pc := 47) dX7_next_47 fl_LevelStoreModel_19 (by first | assumption | exact Fx.ok (by assumption) (by decide)) rfl (by first | assumption | exact Fx.ref (by assumption) rfl) ?_
        refine wp_iload_n (pc := 50) dX7_next_50 rfl ?_
        refine wp_iaload (pc := 51) dX7_next_51 (by first | assumption | exact Fx.ok (by assumption) (by decide)) (in_I (by omega) (by rw [z]; omega)) ?_
        first | rw [tI_c, h1.dt.2.2 _ (isV_c hb).2] | skip
        refine wp_istore_n (pc := 52) dX7_next_52 (by decide) rfl ?_
        refine wp_iload_n (pc := 53) dX7_next_53 rfl ?_
        refine wp_istore (pc := 54) dX7_next_54 (by decide) rfl ?_
        first
        | exact m_next_loop hX h1 hl hu v k (60000 : Int32) (m := m) _ (fun x hx => mP.id h1 (by rw [hw, hkm, nextV_eq (v := x)]; unfold isNext at hx ⊢; simpa only [hRt] using hx) hk) (1000 - m) m _ _ (by omega) (tI_N hkm) (Nat.le_refl m) (fun i h1 h2 => by omega) ⟨rfl, rfl, rfl, rfl, rfl, trivial⟩
        | exact m_next_loop hX h1 hl hu v k (σ.V v.toInt.toNat) (m := m) _ (fun x hx => mP.id h1 (by rw [hw, hkm, nextV_eq hx]) hk) (1000 - m) m _ _ (by omega) (tI_N hkm) (Nat.le_refl m) (fun i h1 h2 => by omega) ⟨rfl, rfl, rfl, rfl, rfl, trivial⟩
      · rw [tl_m1] at hc
        have hw : σ.next v k = (nextV (allE σ) k.toInt σ.num, σ) := by unfold St.next; rw [if_pos hok, if_pos hb2, if_pos hc]
        refine wp_ldc (pc := 41) (v := 60000) dX7_next_41 cn_LevelStoreModel_99 ?_
        refine wp_goto (pc := 43) (tgt := 52) dX7_next_43 (by decide) ?_
        first | rw [tI_c, h1.dt.2.2 _ (isV_c hb).2] | skip
        refine wp_istore_n (pc := 52) dX7_next_52 (by decide) rfl ?_
        refine wp_iload_n (pc := 53) dX7_next_53 rfl ?_
        refine wp_istore (pc := 54) dX7_next_54 (by decide) rfl ?_
        first
        | exact m_next_loop hX h1 hl hu v k (60000 : Int32) (m := m) _ (fun x hx => mP.id h1 (by rw [hw, hkm, nextV_eq (v := x)]; unfold isNext at hx ⊢; simpa only [hRt] using hx) hk) (1000 - m) m _ _ (by omega) (tI_N hkm) (Nat.le_refl m) (fun i h1 h2 => by omega) ⟨rfl, rfl, rfl, rfl, rfl, trivial⟩
        | exact m_next_loop hX h1 hl hu v k (σ.V v.toInt.toNat) (m := m) _ (fun x hx => mP.id h1 (by rw [hw, hkm, nextV_eq hx]) hk) (1000 - m) m _ _ (by omega) (tI_N hkm) (Nat.le_refl m) (fun i h1 h2 => by omega) ⟨rfl, rfl, rfl, rfl, rfl, trivial⟩
    · have hb2 := ite01 hc
      refine wp_ldc (pc := 33) (v := -1000002) dX7_next_33 cn_LevelStoreModel_111 ?_
      refine wp_ret (pc := 35) dX7_next_35 rfl (by first | trivial | exact Or.inl rfl | exact Or.inr rfl | assumption) ?_
      exact mP.id h1 (by unfold St.next; rw [if_pos hok, if_neg hb2]) hk
  · rw [tl_m1] at hc
    have hv1 := hc
    first | refine wp_aload_n (pc := 10) dX7_next_10 rfl ?_ | refine wp_aload_nN (pc := 10) dX7_next_10 rfl ?_
    refine wp_iload_n (pc := 11) dX7_next_11 rfl ?_
    refine cv_LevelStoreModel_131 (pc := 12) (m_noView hX h1 hV v) rfl dX7_next_12 (by first | assumption | exact Fx.ok (by assumption) (by decide)) ⟨by decide, by decide, Nat.zero_le _, Nat.zero_le _⟩ (Nat.le_of_ble_eq_true rfl) (fun v h hp => ?_)
    obtain ⟨rfl, rfl⟩ := hp
    refine wp_if_eq (pc := 15) (tgt := 21) dX7_next_15 (by decide) (fun hc => ?_) (fun hc => ?_)
    · have hh : σ.held v := Decidable.byContradiction fun q => by rw [if_neg q] at hc; exact absurd hc (by decide)
      have hok : v.toInt = -1 ∨ σ.held v := Or.inr hh
      refine wp_iload_n (pc := 21) dX7_next_21 rfl ?_
      refine wp_i2l (pc := 22) dX7_next_22 ?_
      refine wp_lconst (pc := 23) (v := 0) dX7_next_23 (by decide) ?_
      refine wp_ldc2 (pc := 24) (v := 999) dX7_next_24 cl2_LevelStoreModel_101 ?_
      refine cv_LevelStoreModel_103 (pc := 27) (s_inI k l64_0 l64_999) rfl dX7_next_27 ⟨by decide, by decide, Nat.zero_le _, Nat.zero_le _⟩ (Nat.le_of_ble_eq_true rfl) (fun v h hp => ?_)
      obtain ⟨rfl, rfl⟩ := hp
      refine wp_if_ne (pc := 30) (tgt := 36) dX7_next_30 (by decide) (fun hc => ?_) (fun hc => ?_)
      · have hb2 := ite01n hc
        obtain ⟨m, hkm⟩ : ∃ m : Nat, k.toInt = m := ⟨k.toInt.toNat, by omega⟩
        refine wp_iload_n (pc := 36) dX7_next_36 rfl ?_
        refine wp_iconst (pc := 37) (v := -1) dX7_next_37 (by decide) ?_
        refine wp_icmp_ne (pc := 38) (tgt := 46) dX7_next_38 (by decide) (fun hc => ?_) (fun hc => ?_)
        · rw [tl_m1] at hc
          have hh : σ.held v := hok.resolve_left hc
          have hb : 0 ≤ v.toInt ∧ v.toInt ≤ 2 := ⟨hh.1.1, by have := hh.1.2; omega⟩
          have hw : σ.next v k = (nextV (allE σ) k.toInt (σ.V v.toInt.toNat).toInt, σ) := by unfold St.next; rw [if_pos hok, if_pos hb2, if_neg hc]
          first | refine wp_aload_n (pc := 46) dX7_next_46 rfl ?_ | refine wp_aload_nN (pc := 46) dX7_next_46 rfl ?_
          refine wp_getR (pc := 47) dX7_next_47 fl_LevelStoreModel_19 (by first | assumption | exact Fx.ok (by assumption) (by decide)) rfl (by first | assumption | exact Fx.ref (by assumption) rfl) ?_
          refine wp_iload_n (pc := 50) dX7_next_50 rfl ?_
          refine wp_iaload (pc := 51) dX7_next_51 (by first | assumption | exact Fx.ok (by assumption) (by decide)) (in_I (by omega) (by rw [z]; omega)) ?_
          first | rw [tI_c, h1.dt.2.2 _ (isV_c hb).2] | skip
          refine wp_istore_n (pc := 52) dX7_next_52 (by decide) rfl ?_
          refine wp_iload_n (pc := 53) dX7_next_53 rfl ?_
          refine wp_istore (pc := 54) dX7_next_54 (by decide) rfl ?_
          first
          | exact m_next_loop hX h1 hl hu v k (60000 : Int32) (m := m) _ (fun x hx => mP.id h1 (by rw [hw, hkm, nextV_eq (v := x)]; unfold isNext at hx ⊢; simpa only [hRt] using hx) hk) (1000 - m) m _ _ (by omega) (tI_N hkm) (Nat.le_refl m) (fun i h1 h2 => by omega) ⟨rfl, rfl, rfl, rfl, rfl, trivial⟩
          | exact m_next_loop hX h1 hl hu v k (σ.V v.toInt.toNat) (m := m) _ (fun x hx => mP.id h1 (by rw [hw, hkm, nextV_eq hx]) hk) (1000 - m) m _ _ (by omega) (tI_N hkm) (Nat.le_refl m) (fun i h1 h2 => by omega) ⟨rfl, rfl, rfl, rfl, rfl, trivial⟩
        · rw [tl_m1] at hc
          have hw : σ.next v k = (nextV (allE σ) k.toInt σ.num, σ) := by unfold St.next; rw [if_pos hok, if_pos hb2, if_pos hc]
          refine wp_ldc (pc := 41) (v := 60000) dX7_next_41 cn_LevelStoreModel_99 ?_
          refine wp_goto (pc := 43) (tgt := 52) dX7_next_43 (by decide) ?_
          first | rw [tI_c, h1.dt.2.2 _ (isV_c hb).2] | skip
          refine wp_istore_n (pc := 52) dX7_next_52 (by decide) rfl ?_
          refine wp_iload_n (pc := 53) dX7_next_53 rfl ?_
          refine wp_istore (pc := 54) dX7_next_54 (by decide) rfl ?_
          first
          | exact m_next_loop hX h1 hl hu v k (60000 : Int32) (m := m) _ (fun x hx => mP.id h1 (by rw [hw, hkm, nextV_eq (v := x)]; unfold isNext at hx ⊢; simpa only [hRt] using hx) hk) (1000 - m) m _ _ (by omega) (tI_N hkm) (Nat.le_refl m) (fun i h1 h2 => by omega) ⟨rfl, rfl, rfl, rfl, rfl, trivial⟩
          | exact m_next_loop hX h1 hl hu v k (σ.V v.toInt.toNat) (m := m) _ (fun x hx => mP.id h1 (by rw [hw, hkm, nextV_eq hx]) hk) (1000 - m) m _ _ (by omega) (tI_N hkm) (Nat.le_refl m) (fun i h1 h2 => by omega) ⟨rfl, rfl, rfl, rfl, rfl, trivial⟩
      · have hb2 := ite01 hc
        refine wp_ldc (pc := 33) (v := -1000002) dX7_next_33 cn_LevelStoreModel_111 ?_
        refine wp_ret (pc := 35) dX7_next_35 rfl (by first | trivial | exact Or.inl rfl | exact Or.inr rfl | assumption) ?_
        exact mP.id h1 (by unfold St.next; rw [if_pos hok, if_neg hb2]) hk
    · have hh : ¬ σ.held v := fun q => by rw [if_pos q] at hc; exact hc rfl
      refine wp_ldc (pc := 18) (v := -1000001) dX7_next_18 cn_LevelStoreModel_135 ?_
      refine wp_ret (pc := 20) dX7_next_20 rfl (by first | trivial | exact Or.inl rfl | exact Or.inr rfl | assumption) ?_
      exact mP.id h1 (by unfold St.next; rw [if_neg (fun q => q.elim hv1 hh)]) hk
end M3
