/-! merge -/
section MG
variable {σ : St} {n : Nat} {S : ab_SH} {R : ab_RR} {I : ab_II} {A : AC} {P : Nat → List Nat} {sp : List FA}
theorem RC.lvI (h : RC σ n S R I A P sp) {k : Nat} (hk : k < 4) {I' : ab_II} (hI : ∀ j, j ∉ [27, 28, 29, 30, 31, 32] → I' j = I j) : al_L n S R I' (xk k) (A k).1 (A k).2 (P k) ∧ fl_I n S R I' (P k) (σ.FS k) ∧ fr_S n S R (fk k) (xk k) := by
  obtain ⟨h1, h2, h3⟩ := h.lvk (k := k) (by omega) (by omega)
  have := xk_in (k := k) (by omega)
  exact ⟨h1.keepI (hI _ (by simp; omega)), h2.keep (fun j hj => hI j (by simp; omega)), h3⟩
theorem s_merge_fin (h : RC σ n S R I A P sp) (hid : idle σ) (hj : σ.job = false) {l : Nat} (hl : l < 3) {a b : Nat} (hab : a ≤ b) (hb : b ≤ (σ.FS l).length) {I1 : ab_II} (hf1 : ab_fr I I1 [27]) (h0 : I1 27 0 = 1) (h1 : I1 27 1 = nI l) (h2 : I1 27 2 = nI a) (h3 : I1 27 3 = nI b) (h4 : I1 27 4 = nI (l + 1)) (h9 : I1 27 9 = I 27 9)
    {tf tt : Nat} (htf : tf = (σ.FS (l + 1)).countP (eb (mlo (slice (σ.FS l) a b)))) (htt : tt = (σ.FS (l + 1)).countP (bu (mhi (slice (σ.FS l) a b)))) (hft : tf ≤ tt) {src : List En} (hsrc : src = msrc (slice (σ.FS l) a b) (slice (σ.FS (l + 1)) tf tt)) (hs : src.length ≤ 750) (i x : Int32) :
    wp 5 118 0 0 MX6_merge 107 [(0, .ref 3), (1, .int x), (2, .int i), (3, .ref (fk l)), (4, .ref (fk (l + 1)))] [] (n, S, R, I1) (cP I n S R (nI src.length, σ.beg (l + 1) a b tf tt src)) := by
  have hX := h.fx
  obtain ⟨i1, i2, i3, i4⟩ := hid hj
  have hk1 : ∀ j, j ∉ [27, 28, 29, 30, 31, 32] → I1 j = I j := fun j hj => hf1 j (by simp at hj; simp; omega)
  obtain ⟨aL, aF, aR⟩ := h.lvI (k := l) (by omega) hk1
  obtain ⟨bL, bF, bR⟩ := h.lvI (k := l + 1) (by omega) hk1
  have of1 := aR.1
  have of2 := bR.1
  have ell := aF.1
  have elb := bF.1
  have htl : tt ≤ (σ.FS (l + 1)).length := by rw [htt]; exact List.countP_le_length
  have hmono : ((slice (σ.FS (l + 1)) tf tt).foldl mgF []).length ≤ src.length := by
    have key : ∀ (fs : List FA) (es : List En), es.length ≤ (fs.foldl mgF es).length := by
      intro fs
      induction fs with
      | nil => intro es; exact Nat.le_refl _
      | cons F fs ih =>
        intro es
        refine Nat.le_trans ?_ (ih _)
        rw [mgF, mrg_len]
        exact Nat.le_add_right _ _
    rw [hsrc]
    exact key _ _
  first | refine wp_aload_n (pc := 107) dX6_merge_107 rfl ?_ | refine wp_aload_nN (pc := 107) dX6_merge_107 rfl ?_
  refine wp_getR (pc := 108) dX6_merge_108 fl_LevelStore_50 (by first | assumption | exact Fx.ok (by assumption) (by decide)) rfl (by first | assumption | exact Fx.ref (by assumption) rfl) ?_
  first | refine wp_aload (pc := 111) dX6_merge_111 rfl ?_ | refine wp_aloadN (pc := 111) dX6_merge_111 rfl ?_
  first | refine wp_aload_n (pc := 113) dX6_merge_113 rfl ?_ | refine wp_aload_nN (pc := 113) dX6_merge_113 rfl ?_
  first | refine wp_aload_n (pc := 114) dX6_merge_114 rfl ?_ | refine wp_aload_nN (pc := 114) dX6_merge_114 rfl ?_
  refine wp_getR (pc := 115) dX6_merge_115 fl_LevelStore_50 (by first | assumption | exact Fx.ok (by assumption) (by decide)) rfl (by first | assumption | exact Fx.ref (by assumption) rfl) ?_
  refine wp_getI (pc := 118) dX6_merge_118 fl_LevelStore_156 (by first | assumption | exact Fx.ok (by assumption) (by decide)) rfl ?_
  first | refine wp_aload_n (pc := 121) dX6_merge_121 rfl ?_ | refine wp_aload_nN (pc := 121) dX6_merge_121 rfl ?_
  refine wp_getR (pc := 122) dX6_merge_122 fl_LevelStore_50 (by first | assumption | exact Fx.ok (by assumption) (by decide)) rfl (by first | assumption | exact Fx.ref (by assumption) rfl) ?_
  refine wp_getI (pc := 125) dX6_merge_125 fl_LevelStore_159 (by first | assumption | exact Fx.ok (by assumption) (by decide)) rfl ?_
  rw [h2, h3]
  refine cv_LevelStore_162 (pc := 128) (s_X1_leastKey aR aL aF a b hab (by omega)) rfl dX6_merge_128 (by first | assumption | exact Fx.ok (by assumption) (by decide)) ⟨by decide, by decide, Nat.zero_le _, Nat.zero_le _⟩ (Nat.le_of_ble_eq_true rfl) (fun v h hp => ?_)
  obtain ⟨rfl, rfl⟩ := hp
  refine cv_LevelStore_165 (pc := 131) (s_X1_howManyEndBelow bR bL bF _) rfl dX6_merge_131 (by first | assumption | exact Fx.ok (by assumption) (by decide)) ⟨by decide, by decide, Nat.zero_le _, Nat.zero_le _⟩ (Nat.le_of_ble_eq_true rfl) (fun v h hp => ?_)
  obtain ⟨rfl, rfl⟩ := hp
  rw [show nI ((σ.FS (l + 1)).countP (eb ((((σ.FS l).take b).drop a).foldl mnF 1000))) = nI tf by rw [htf]; rfl]
  refine wp_putI (pc := 134) dX6_merge_134 fl_LevelStore_118 (by first | assumption | exact Fx.ok (by assumption) (by decide)) rfl rfl (Or.inl rfl) ?_
  have hk2 : ∀ j, j ∉ [27, 28, 29, 30, 31, 32] → ab_u2 I1 27 5 (nI tf) j = I j := fun j hj => by rw [ab_u2_r _ _ (fun q => hj (by rw [q]; simp))]; exact hk1 j hj
  obtain ⟨aL2, aF2, -⟩ := h.lvI (k := l) (by omega) hk2
  obtain ⟨bL2, bF2, -⟩ := h.lvI (k := l + 1) (by omega) hk2
  first | refine wp_aload_n (pc := 137) dX6_merge_137 rfl ?_ | refine wp_aload_nN (pc := 137) dX6_merge_137 rfl ?_
  refine wp_getR (pc := 138) dX6_merge_138 fl_LevelStore_50 (by first | assumption | exact Fx.ok (by assumption) (by decide)) rfl (by first | assumption | exact Fx.ref (by assumption) rfl) ?_
  first | refine wp_aload (pc := 141) dX6_merge_141 rfl ?_ | refine wp_aloadN (pc := 141) dX6_merge_141 rfl ?_
  first | refine wp_aload_n (pc := 143) dX6_merge_143 rfl ?_ | refine wp_aload_nN (pc := 143) dX6_merge_143 rfl ?_
  first | refine wp_aload_n (pc := 144) dX6_merge_144 rfl ?_ | refine wp_aload_nN (pc := 144) dX6_merge_144 rfl ?_
  refine wp_getR (pc := 145) dX6_merge_145 fl_LevelStore_50 (by first | assumption | exact Fx.ok (by assumption) (by decide)) rfl (by first | assumption | exact Fx.ref (by assumption) rfl) ?_
  refine wp_getI (pc := 148) dX6_merge_148 fl_LevelStore_156 (by first | assumption | exact Fx.ok (by assumption) (by decide)) rfl ?_
  first | refine wp_aload_n (pc := 151) dX6_merge_151 rfl ?_ | refine wp_aload_nN (pc := 151) dX6_merge_151 rfl ?_
  refine wp_getR (pc := 152) dX6_merge_152 fl_LevelStore_50 (by first | assumption | exact Fx.ok (by assumption) (by decide)) rfl (by first | assumption | exact Fx.ref (by assumption) rfl) ?_
  refine wp_getI (pc := 155) dX6_merge_155 fl_LevelStore_159 (by first | assumption | exact Fx.ok (by assumption) (by decide)) rfl ?_
  rw [show ab_u2 I1 27 5 (nI tf) 27 2 = nI a from h2, show ab_u2 I1 27 5 (nI tf) 27 3 = nI b from h3]
  refine cv_LevelStore_168 (pc := 158) (s_X1_greatestKey aR aL2 aF2 a b hab (by omega)) rfl dX6_merge_158 (by first | assumption | exact Fx.ok (by assumption) (by decide)) ⟨by decide, by decide, Nat.zero_le _, Nat.zero_le _⟩ (Nat.le_of_ble_eq_true rfl) (fun v h hp => ?_)
  obtain ⟨rfl, rfl⟩ := hp
  refine cv_LevelStore_171 (pc := 161) (s_X1_howManyBeginUpTo bR bL2 bF2 _) rfl dX6_merge_161 (by first | assumption | exact Fx.ok (by assumption) (by decide)) ⟨by decide, by decide, Nat.zero_le _, Nat.zero_le _⟩ (Nat.le_of_ble_eq_true rfl) (fun v h hp => ?_)
  obtain ⟨rfl, rfl⟩ := hp
  rw [show nI ((σ.FS (l + 1)).countP (bu ((((σ.FS l).take b).drop a).foldl mxF (-1)))) = nI tt by rw [htt]; rfl]
  refine wp_putI (pc := 164) dX6_merge_164 fl_LevelStore_121 (by first | assumption | exact Fx.ok (by assumption) (by decide)) rfl rfl (Or.inl rfl) ?_
  first | refine wp_aload (pc := 167) dX6_merge_167 rfl ?_ | refine wp_aloadN (pc := 167) dX6_merge_167 rfl ?_
  first | refine wp_aload_n (pc := 169) dX6_merge_169 rfl ?_ | refine wp_aload_nN (pc := 169) dX6_merge_169 rfl ?_
  refine wp_getR (pc := 170) dX6_merge_170 fl_LevelStore_50 (by first | assumption | exact Fx.ok (by assumption) (by decide)) rfl (by first | assumption | exact Fx.ref (by assumption) rfl) ?_
  refine wp_getR (pc := 173) dX6_merge_173 fl_LevelStore_124 (by first | assumption | exact Fx.ok (by assumption) (by decide)) rfl (by first | assumption | exact Fx.ref (by assumption) rfl) ?_
  first | refine wp_aload_n (pc := 176) dX6_merge_176 rfl ?_ | refine wp_aload_nN (pc := 176) dX6_merge_176 rfl ?_
  refine wp_getR (pc := 177) dX6_merge_177 fl_LevelStore_50 (by first | assumption | exact Fx.ok (by assumption) (by decide)) rfl (by first | assumption | exact Fx.ref (by assumption) rfl) ?_
  refine wp_getI (pc := 180) dX6_merge_180 fl_LevelStore_118 (by first | assumption | exact Fx.ok (by assumption) (by decide)) rfl ?_
  first | refine wp_aload_n (pc := 183) dX6_merge_183 rfl ?_ | refine wp_aload_nN (pc := 183) dX6_merge_183 rfl ?_
  refine wp_getR (pc := 184) dX6_merge_184 fl_LevelStore_50 (by first | assumption | exact Fx.ok (by assumption) (by decide)) rfl (by first | assumption | exact Fx.ref (by assumption) rfl) ?_
  refine wp_getI (pc := 187) dX6_merge_187 fl_LevelStore_121 (by first | assumption | exact Fx.ok (by assumption) (by decide)) rfl ?_
  have hk3 : ∀ j, j ∉ [27, 28, 29, 30, 31, 32] → ab_u2 (ab_u2 I1 27 5 (nI tf)) 27 6 (nI tt) j = I j := fun j hj => by rw [ab_u2_r _ _ (fun q => hj (by rw [q]; simp))]; exact hk2 j hj
  obtain ⟨bL3, bF3, -⟩ := h.lvI (k := l + 1) (by omega) hk3
  rw [show ab_u2 (ab_u2 I1 27 5 (nI tf)) 27 6 (nI tt) 27 5 = nI tf from rfl, show ab_u2 (ab_u2 I1 27 5 (nI tf)) 27 6 (nI tt) 27 6 = nI tt from rfl]
  have hr0 : rw_I (ab_u2 (ab_u2 I1 27 5 (nI tf)) 27 6 (nI tt)) 28 29 30 31 ([] : List En).length (fun k => (I 29 k, I 30 k, I 31 k)) := by
    obtain ⟨f0, hf0, -⟩ := h.sr
    refine ⟨?_, fun k => ⟨?_, ?_, ?_⟩⟩
    · show I1 28 3 = nI 0
      rw [hf1 28 (by decide), hf0.1, i1]; rfl
    · show I1 29 k = I 29 k
      rw [hf1 29 (by decide)]
    · show I1 30 k = I 30 k
      rw [hf1 30 (by decide)]
    · show I1 31 k = I 31 k
      rw [hf1 31 (by decide)]
  have hxb := xk_in (k := l + 1) (by omega)
  have hxa := xk_in (k := l) (by omega)
  refine cv_LevelStore_174 (pc := 190) (s_X1_mergeInto bR (by omega) hX tf tt hft (by omega) bL3 bF3 [] _ hr0 rfl (Nat.le_trans hmono hs)) rfl dX6_merge_190 (by first | assumption | exact Fx.ok (by assumption) (by decide)) ⟨by decide, by decide, Nat.zero_le _, Nat.zero_le _⟩ (Nat.le_of_ble_eq_true rfl) (fun v h hp => ?_)
  obtain ⟨rfl, I4, g4, rfl, hf4, hr4, hrl4⟩ := hp
  have hk4 : ∀ j, j ∉ [27, 28, 29, 30, 31, 32] → I4 j = I j := fun j hj => by rw [hf4 j (by simp at hj; simp; omega)]; exact hk3 j hj
  obtain ⟨aL4, aF4, -⟩ := h.lvI (k := l) (by omega) hk4
  have e27 : I4 27 = ab_u2 (ab_u2 I1 27 5 (nI tf)) 27 6 (nI tt) 27 := hf4 27 (by decide)
  first | refine wp_aload_n (pc := 193) dX6_merge_193 rfl ?_ | refine wp_aload_nN (pc := 193) dX6_merge_193 rfl ?_
  first | refine wp_aload_n (pc := 194) dX6_merge_194 rfl ?_ | refine wp_aload_nN (pc := 194) dX6_merge_194 rfl ?_
  refine wp_getR (pc := 195) dX6_merge_195 fl_LevelStore_50 (by first | assumption | exact Fx.ok (by assumption) (by decide)) rfl (by first | assumption | exact Fx.ref (by assumption) rfl) ?_
  refine wp_getR (pc := 198) dX6_merge_198 fl_LevelStore_124 (by first | assumption | exact Fx.ok (by assumption) (by decide)) rfl (by first | assumption | exact Fx.ref (by assumption) rfl) ?_
  first | refine wp_aload_n (pc := 201) dX6_merge_201 rfl ?_ | refine wp_aload_nN (pc := 201) dX6_merge_201 rfl ?_
  refine wp_getR (pc := 202) dX6_merge_202 fl_LevelStore_50 (by first | assumption | exact Fx.ok (by assumption) (by decide)) rfl (by first | assumption | exact Fx.ref (by assumption) rfl) ?_
  refine wp_getI (pc := 205) dX6_merge_205 fl_LevelStore_156 (by first | assumption | exact Fx.ok (by assumption) (by decide)) rfl ?_
  first | refine wp_aload_n (pc := 208) dX6_merge_208 rfl ?_ | refine wp_aload_nN (pc := 208) dX6_merge_208 rfl ?_
  refine wp_getR (pc := 209) dX6_merge_209 fl_LevelStore_50 (by first | assumption | exact Fx.ok (by assumption) (by decide)) rfl (by first | assumption | exact Fx.ref (by assumption) rfl) ?_
  refine wp_getI (pc := 212) dX6_merge_212 fl_LevelStore_159 (by first | assumption | exact Fx.ok (by assumption) (by decide)) rfl ?_
  rw [show I4 27 2 = nI a by rw [e27]; exact h2, show I4 27 3 = nI b by rw [e27]; exact h3]
  refine cv_LevelStore_174 (pc := 215) (s_X1_mergeInto aR (by omega) hX a b hab (by omega) aL4 aF4 _ g4 hr4 hrl4 (by rw [hsrc] at hs; exact hs)) rfl dX6_merge_215 (by first | assumption | exact Fx.ok (by assumption) (by decide)) ⟨by decide, by decide, Nat.zero_le _, Nat.zero_le _⟩ (Nat.le_of_ble_eq_true rfl) (fun v h hp => ?_)
  obtain ⟨rfl, I5, g5, rfl, hf5, hr5, hrl5⟩ := hp
  have esrc : ((((σ.FS l).take b).drop a).foldl mgF ((((σ.FS (l + 1)).take tt).drop tf).foldl mgF [])) = src := by rw [hsrc]; rfl
  rw [esrc] at hr5 hrl5
  first | refine wp_aload_n (pc := 218) dX6_merge_218 rfl ?_ | refine wp_aload_nN (pc := 218) dX6_merge_218 rfl ?_
  refine wp_getR (pc := 219) dX6_merge_219 fl_LevelStore_50 (by first | assumption | exact Fx.ok (by assumption) (by decide)) rfl (by first | assumption | exact Fx.ref (by assumption) rfl) ?_
  first | refine wp_aload_n (pc := 222) dX6_merge_222 rfl ?_ | refine wp_aload_nN (pc := 222) dX6_merge_222 rfl ?_
  refine wp_getR (pc := 223) dX6_merge_223 fl_LevelStore_18 (by first | assumption | exact Fx.ok (by assumption) (by decide)) rfl (by first | assumption | exact Fx.ref (by assumption) rfl) ?_
  refine cv_LevelStore_139 (pc := 226) (s_X2_decide hX hs hr5) rfl dX6_merge_226 (by first | assumption | exact Fx.ok (by assumption) (by decide)) ⟨by decide, by decide, Nat.zero_le _, Nat.zero_le _⟩ (Nat.le_of_ble_eq_true rfl) (fun v h hp => ?_)
  obtain ⟨rfl, I6, rfl, hf6, hb6⟩ := hp
  first | refine wp_aload_n (pc := 229) dX6_merge_229 rfl ?_ | refine wp_aload_nN (pc := 229) dX6_merge_229 rfl ?_
  refine wp_getR (pc := 230) dX6_merge_230 fl_LevelStore_50 (by first | assumption | exact Fx.ok (by assumption) (by decide)) rfl (by first | assumption | exact Fx.ref (by assumption) rfl) ?_
  refine cv_LevelStore_143 (pc := 233) (s_X2_left hX) rfl dX6_merge_233 (by first | assumption | exact Fx.ok (by assumption) (by decide)) ⟨by decide, by decide, Nat.zero_le _, Nat.zero_le _⟩ (Nat.le_of_ble_eq_true rfl) (fun v h hp => ?_)
  obtain ⟨rfl, rfl⟩ := hp
  refine wp_ret (pc := 236) dX6_merge_236 rfl (by first | trivial | exact Or.inl rfl | exact Or.inr rfl | assumption) ?_
  have hk6 : ∀ j, j ∉ [27, 28, 29, 30, 31, 32] → I6 j = I j := fun j hj => by rw [hf6 j (by simp at hj; simp; omega), hf5 j (by simp at hj; simp; omega)]; exact hk4 j hj
  have e276 : I6 27 = ab_u2 (ab_u2 I1 27 5 (nI tf)) 27 6 (nI tt) 27 := by rw [hf6 27 (by simp), hf5 27 (by simp), e27]
  have e8 : I5 8 = I 8 := by rw [hf5 8 (by simp)]; exact hk4 8 (by simp)
  have e54 : I5 27 4 = I6 27 4 := by rw [hf6 27 (by simp)]
  have hr6 : rw_I I6 28 29 30 31 src.length g5 := hr5.keep hf6 (by decide) (by decide) (by decide) (by decide)
  have hRC := h.begun hid hj (tgt := l + 1) (lf := a) (lt := b) (tf := tf) (tt := tt) hk6 (by rw [e276]; exact h0) (by rw [e276]; show I1 27 1 = _; rw [h1]; exact (pk_sub (show 1 ≤ l + 1 by omega)).symm) (fun _ => ⟨by rw [e276]; exact h2, by rw [e276]; exact h3⟩) (by rw [e276]; exact h4) (by rw [e276]; rfl) (by rw [e276]; rfl) (by rw [e276]; exact h9) hr6 hrl5 (by omega) (fun k hk => by rw [← e54, ← e8]; exact hb6 k hk)
  refine ⟨by rw [hRC.left hs (Nat.zero_le _)]; rfl, n, S, R, I6, A, P, sp, rfl, ab_ex.rf, hRC, fun j hj => hk6 j (by simp; omega)⟩
end MG
