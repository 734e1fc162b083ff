/-! THE REFERENCE: install, check -/
section M19
variable {σ : St} {n : Nat} {S : ab_SH} {R : ab_RR} {I : ab_II} {SL : Nat → List Nat}
theorem m_inst_209 (hX : Fx n S R) (x1 : Int32) {post : ab_Po} (hpost : post (some (.int x1)) (n, S, R, ab_u2 (ab_u2 I 39 20 0) 39 30 0)) (L : List (Nat × Value)) (hL : ab_sub L [(0, .ref 39), (1, .int x1)]) : wp 0 0 0 0 MX7_install 209 L [] (n, S, R, I) post := by
  refine wp_loc hL ?_
  first | refine wp_aload_n (pc := 209) dX7_install_209 rfl ?_ | refine wp_aload_nN (pc := 209) dX7_install_209 rfl ?_
  refine wp_iconst (pc := 210) (v := 0) dX7_install_210 (by decide) ?_
  refine wp_putI (pc := 211) dX7_install_211 fl_LevelStoreModel_143 (by first | assumption | exact Fx.ok (by assumption) (by decide)) rfl rfl (Or.inr ⟨rfl, by first | exact Or.inl rfl | exact Or.inr rfl | assumption⟩) ?_
  first | refine wp_aload_n (pc := 214) dX7_install_214 rfl ?_ | refine wp_aload_nN (pc := 214) dX7_install_214 rfl ?_
  refine wp_iconst (pc := 215) (v := 0) dX7_install_215 (by decide) ?_
  refine wp_putI (pc := 216) dX7_install_216 fl_LevelStoreModel_156 (by first | assumption | exact Fx.ok (by assumption) (by decide)) rfl rfl (Or.inl rfl) ?_
  refine wp_iload_n (pc := 219) dX7_install_219 rfl ?_
  refine wp_ret (pc := 220) dX7_install_220 rfl (by first | trivial | exact Or.inl rfl | exact Or.inr rfl | assumption) ?_
  exact hpost
theorem m_inst_168 (hX : Fx n S R) (x1 : Int32) {jl sy ll : Nat} (hjl : jl ≤ ll) (hll : ll ≤ 24) (hsy : sy ≤ 24) (h1 : I 39 1 = nI ll) (h2 : I 39 2 = nI sy) (h29 : I 39 29 = nI jl) (post : ab_Po) (hk : ∀ L, ab_sub L [(0, .ref 39), (1, .int x1)] → wp 0 0 0 0 MX7_install 209 L [] (n, S, R, ab_u2 (ab_u2 I 39 1 (nI (ll - jl))) 39 2 (nI (sy - jl))) post) (L : List (Nat × Value)) (hL : ab_sub L [(0, .ref 39), (1, .int x1)]) : wp 0 0 0 0 MX7_install 168 L [] (n, S, R, I) post := by
  refine wp_loc hL ?_
  have e2 : (nI sy).toInt = sy := tI_n (by omega)
  have e29 : (nI jl).toInt = jl := tI_n (by omega)
  have s206 : ∀ v : Int32, v = nI (sy - jl) → ∀ L, ab_sub L [(0, .ref 39), (1, .int x1)] → wp 0 0 0 0 MX7_install 206 L [.int v, .ref 39] (n, S, R, ab_u2 I 39 1 (nI (ll - jl))) post := by
    intro v hv L2 hL2
    refine wp_loc hL2 ?_
    subst hv
    refine wp_putI (pc := 206) dX7_install_206 fl_LevelStoreModel_117 (by first | assumption | exact Fx.ok (by assumption) (by decide)) rfl rfl (Or.inl rfl) ?_
    exact hk _ ⟨rfl, rfl, trivial⟩
  first | refine wp_aload_n (pc := 168) dX7_install_168 rfl ?_ | refine wp_aload_nN (pc := 168) dX7_install_168 rfl ?_
  refine wp_dup (pc := 169) dX7_install_169 rfl ?_
  refine wp_getI (pc := 170) dX7_install_170 fl_LevelStoreModel_93 (by first | assumption | exact Fx.ok (by assumption) (by decide)) rfl ?_
  first | refine wp_aload_n (pc := 173) dX7_install_173 rfl ?_ | refine wp_aload_nN (pc := 173) dX7_install_173 rfl ?_
  refine wp_getI (pc := 174) dX7_install_174 fl_LevelStoreModel_166 (by first | assumption | exact Fx.ok (by assumption) (by decide)) rfl ?_
  refine wp_isub (pc := 177) dX7_install_177 ?_
  rw [h1, h29, pk_sub hjl]
  refine wp_putI (pc := 178) dX7_install_178 fl_LevelStoreModel_93 (by first | assumption | exact Fx.ok (by assumption) (by decide)) rfl rfl (Or.inl rfl) ?_
  first | refine wp_aload_n (pc := 181) dX7_install_181 rfl ?_ | refine wp_aload_nN (pc := 181) dX7_install_181 rfl ?_
  first | refine wp_aload_n (pc := 182) dX7_install_182 rfl ?_ | refine wp_aload_nN (pc := 182) dX7_install_182 rfl ?_
  refine wp_getI (pc := 183) dX7_install_183 fl_LevelStoreModel_117 (by first | assumption | exact Fx.ok (by assumption) (by decide)) rfl ?_
  first | refine wp_aload_n (pc := 186) dX7_install_186 rfl ?_ | refine wp_aload_nN (pc := 186) dX7_install_186 rfl ?_
  refine wp_getI (pc := 187) dX7_install_187 fl_LevelStoreModel_166 (by first | assumption | exact Fx.ok (by assumption) (by decide)) rfl ?_
  rw [ab_u2_n _ _ (Or.inr (by decide)), ab_u2_n _ _ (Or.inr (by decide)), h2, h29]
  refine wp_icmp_le (pc := 190) (tgt := 205) dX7_install_190 (by decide) (fun hc => ?_) (fun hc => ?_)
  · skip
    refine wp_iconst (pc := 205) (v := 0) dX7_install_205 (by decide) ?_
    first
    | exact s206 _ rfl _ ⟨rfl, rfl, trivial⟩
    | exact s206 _ (by rw [show sy - jl = 0 by omega]; rfl) _ ⟨rfl, rfl, trivial⟩
  · skip
    first | refine wp_aload_n (pc := 193) dX7_install_193 rfl ?_ | refine wp_aload_nN (pc := 193) dX7_install_193 rfl ?_
    refine wp_getI (pc := 194) dX7_install_194 fl_LevelStoreModel_117 (by first | assumption | exact Fx.ok (by assumption) (by decide)) rfl ?_
    first | refine wp_aload_n (pc := 197) dX7_install_197 rfl ?_ | refine wp_aload_nN (pc := 197) dX7_install_197 rfl ?_
    refine wp_getI (pc := 198) dX7_install_198 fl_LevelStoreModel_166 (by first | assumption | exact Fx.ok (by assumption) (by decide)) rfl ?_
    refine wp_isub (pc := 201) dX7_install_201 ?_
    rw [ab_u2_n _ _ (Or.inr (by decide)), ab_u2_n _ _ (Or.inr (by decide)), h2, h29, pk_sub (by omega)]
    refine wp_goto (pc := 202) (tgt := 206) dX7_install_202 (by decide) ?_
    first
    | exact s206 _ rfl _ ⟨rfl, rfl, trivial⟩
    | exact s206 _ (by rw [show sy - jl = 0 by omega]; rfl) _ ⟨rfl, rfl, trivial⟩
theorem m_inst_91 (hX : Fx n S R) (h : RMc σ I SL) (hj : σ.job = true) (hp : posOK σ) (hl : σ.log.length ≤ 24) (hs : σ.syn ≤ σ.log.length) {I0 J : ab_II} (hk0 : kC I0 I) (hf : fM I J [44, 57] []) (h44 : ∀ f, f < 330 → J 44 f = if I 44 f = 9 then nI σ.tgt else if I 57 f ≠ 0 then -1 else I 44 f) (L : List (Nat × Value)) (hL : ab_sub L [(0, .ref 39), (1, .int (nI (σ.FS 5).length))]) : wp 0 0 0 0 MX7_install 91 L [] (n, S, R, J) (mP I0 n S R (nI (σ.FS 5).length, σ.insD.fin)) := by
  refine wp_loc hL ?_
  obtain ⟨d1, d2, d3, d4, d5, d6, d7, d8⟩ := h.jb.2.2 hj
  have htg := hp.1
  have e21 : (J 39 21).toInt = (σ.tgt : Int) - 1 := by rw [hf.2 21 (by simp), d1, tI_sub (by rw [tI_n (by omega), tl_1]; omega) (by rw [tI_n (by omega), tl_1]; omega), tI_n (by omega), tl_1]
  have e1 : J 39 1 = nI σ.log.length := by rw [hf.2 1 (by simp)]; exact h.1.1
  have eda : ∀ j, j ≠ 39 → j ≠ 44 → j ≠ 57 → J j = I j := fun j q1 q2 q3 => hf.1 j (by simp [q2, q3]) q1
  have fin : ∀ (J2 : ab_II), (∀ j, 43 ≤ j → J2 j = J j) → (∀ j, j < 39 → J2 j = J j) → (∀ k, k ≠ 1 → k ≠ 2 → J2 39 k = J 39 k) → mLog σ.insD.fin J2 → J2 39 2 = nI σ.insD.fin.syn → ∀ L, ab_sub L [(0, .ref 39), (1, .int (nI (σ.FS 5).length))] → wp 0 0 0 0 MX7_install 209 L [] (n, S, R, J2) (mP I0 n S R (nI (σ.FS 5).length, σ.insD.fin)) := by
    intro J2 g1 g2 g3 g4 g5 L2 hL2
    refine m_inst_209 hX _ ⟨rfl, _, insS σ SL, rfl, RM.inst h hj hp (fun f q => ?_) (fun j q1 q2 => ?_) ⟨?_, ?_⟩ ⟨?_, ?_, fun k q => ?_⟩ ?_ ?_ ?_, fun j q => ?_⟩ L2 hL2
    · rw [ab_u2_r _ _ (by decide), ab_u2_r _ _ (by decide), g1 44 (by decide)]; exact h44 f q
    · rw [ab_u2_r _ _ (by omega), ab_u2_r _ _ (by omega), g1 j (by omega), eda j (by omega) (by omega) (by omega)]
    · rw [ab_u2_n _ _ (Or.inr (by decide)), ab_u2_n _ _ (Or.inr (by decide))]; exact g4.1
    · exact g4.2.keep ((ab_u2_r _ _ (by decide)).trans (ab_u2_r _ _ (by decide))) ((ab_u2_r _ _ (by decide)).trans (ab_u2_r _ _ (by decide))) ((ab_u2_r _ _ (by decide)).trans (ab_u2_r _ _ (by decide)))
    · rw [ab_u2_n _ _ (Or.inr (by decide)), ab_u2_n _ _ (Or.inr (by decide))]; exact g5
    · rw [ab_u2_n _ _ (Or.inr (by decide)), ab_u2_n _ _ (Or.inr (by decide)), g3 6 (by decide) (by decide), hf.2 6 (by simp)]; exact h.2.1.2.1
    · rw [ab_u2_r _ _ (by decide), ab_u2_r _ _ (by decide), g1 43 (by decide), eda 43 (by decide) (by decide) (by decide)]; exact h.2.1.2.2 k q
    · rw [ab_u2_n _ _ (Or.inr (by decide)), ab_u2_n _ _ (Or.inr (by decide)), g3 16 (by decide) (by decide), hf.2 16 (by simp)]
    · rw [ab_u2_n _ _ (Or.inr (by decide)), ab_u2_s]
    · rw [ab_u2_s]
    · rw [ab_u2_r _ _ (by omega), ab_u2_r _ _ (by omega)]
      rcases q with q | q
      · rw [g2 j q, eda j (by omega) (by omega) (by omega)]; exact hk0 j (Or.inl q)
      · rw [g1 j (by omega), eda j (by omega) (by omega) (by omega)]; exact hk0 j (Or.inr q)
  by_cases h0 : σ.tgt = 0
  · have hjl := hp.2.2.2.2 h0
    have eD : σ.insD.fin.log = σ.log.drop σ.src.length := by show (if σ.tgt = 0 then _ else _) = _; rw [if_pos h0]
    have eS : σ.insD.fin.syn = σ.syn - σ.src.length := by show (if σ.tgt = 0 then _ else _) = _; rw [if_pos h0]
    have e29 : J 39 29 = nI σ.src.length := by rw [hf.2 29 (by simp)]; exact d5 h0
    first | refine wp_aload_n (pc := 91) dX7_install_91 rfl ?_ | refine wp_aload_nN (pc := 91) dX7_install_91 rfl ?_
    refine wp_getI (pc := 92) dX7_install_92 fl_LevelStoreModel_150 (by first | assumption | exact Fx.ok (by assumption) (by decide)) rfl ?_
    refine wp_if_ge (pc := 95) (tgt := 209) dX7_install_95 (by decide) (fun hc => ?_) (fun hc => ?_)
    · omega
    · skip
      first | refine wp_aload_n (pc := 98) dX7_install_98 rfl ?_ | refine wp_aload_nN (pc := 98) dX7_install_98 rfl ?_
      refine wp_getI (pc := 99) dX7_install_99 fl_LevelStoreModel_166 (by first | assumption | exact Fx.ok (by assumption) (by decide)) rfl ?_
      rw [e29]
      refine wp_istore_n (pc := 102) dX7_install_102 (by decide) rfl ?_
      refine m_inst_l2 hX _ (I0 := J) (log := σ.log) (jl := σ.src.length) hl hjl e1 e29 (h.1.2.keep (eda _ (by decide) (by decide) (by decide)) (eda _ (by decide) (by decide) (by decide)) (eda _ (by decide) (by decide) (by decide))) _ (fun J3 hf3 ha3 L3 hL3 => m_inst_168 hX _ (jl := σ.src.length) (sy := σ.syn) (ll := σ.log.length) hjl hl (by omega) (by rw [hf3.2 1 (by simp)]; exact e1) (by rw [hf3.2 2 (by simp), hf.2 2 (by simp)]; exact h.2.1.1) (by rw [hf3.2 29 (by simp)]; exact e29) _ (fun L4 hL4 => fin _ (fun j q => ?_) (fun j q => ?_) (fun k q1 q2 => ?_) ⟨?_, ?_⟩ ?_ L4 hL4) L3 hL3) (σ.log.length - σ.src.length) 0 _ J _ (by omega) rfl fM.rf (fun j q => by omega) (fun j q => ⟨rfl, rfl, rfl⟩) ⟨rfl, rfl, rfl, trivial⟩
      · rw [ab_u2_r _ _ (by omega), ab_u2_r _ _ (by omega), hf3.1 j (by simp; omega) (by omega)]
      · rw [ab_u2_r _ _ (by omega), ab_u2_r _ _ (by omega), hf3.1 j (by simp; omega) (by omega)]
      · rw [ab_u2_n _ _ (Or.inr q2), ab_u2_n _ _ (Or.inr q1), hf3.2 k (by simp)]
      · rw [ab_u2_n _ _ (Or.inr (by decide)), ab_u2_s, eD, List.length_drop]
      · rw [eD]; exact ha3.keep ((ab_u2_r _ _ (by decide)).trans (ab_u2_r _ _ (by decide))) ((ab_u2_r _ _ (by decide)).trans (ab_u2_r _ _ (by decide))) ((ab_u2_r _ _ (by decide)).trans (ab_u2_r _ _ (by decide)))
      · rw [ab_u2_s, eS]
  · have eD : σ.insD.fin.log = σ.log := by show (if σ.tgt = 0 then _ else _) = _; rw [if_neg h0]
    have eS : σ.insD.fin.syn = σ.syn := by show (if σ.tgt = 0 then _ else _) = _; rw [if_neg h0]
    first | refine wp_aload_n (pc := 91) dX7_install_91 rfl ?_ | refine wp_aload_nN (pc := 91) dX7_install_91 rfl ?_
    refine wp_getI (pc := 92) dX7_install_92 fl_LevelStoreModel_150 (by first | assumption | exact Fx.ok (by assumption) (by decide)) rfl ?_
    refine wp_if_ge (pc := 95) (tgt := 209) dX7_install_95 (by decide) (fun hc => ?_) (fun hc => ?_)
    · skip
      refine fin J (fun _ _ => rfl) (fun _ _ => rfl) (fun _ _ _ => rfl) ⟨by rw [eD]; exact e1, ?_⟩ (by rw [eS, hf.2 2 (by simp)]; exact h.2.1.1) _ ⟨rfl, rfl, trivial⟩
      rw [eD]; exact h.1.2.keep (eda _ (by decide) (by decide) (by decide)) (eda _ (by decide) (by decide) (by decide)) (eda _ (by decide) (by decide) (by decide))
    · omega
theorem m_install (hX : Fx n S R) (h : RM σ I SL) (hp' : σ.job = true → posOK σ) (hl : σ.log.length ≤ 24) (hs : σ.syn ≤ σ.log.length) : wp 0 0 0 0 MX7_install 0 [(0, .ref 39)] [] (n, S, R, I) (mP I n S R σ.install) := by
  have hno : ¬ (σ.job = true ∧ σ.don = σ.src.length) → σ.install = (cSTATE, σ) := fun q => by unfold St.install; rw [if_neg q]
  have hyes : σ.job = true → σ.don = σ.src.length → σ.install = (nI (σ.FS 5).length, σ.insD.fin) := fun q z => by unfold St.install; rw [if_pos ⟨q, z⟩]
  first | refine wp_aload_n (pc := 0) dX7_install_0 rfl ?_ | refine wp_aload_nN (pc := 0) dX7_install_0 rfl ?_
  refine wp_iconst (pc := 1) (v := 0) dX7_install_1 (by decide) ?_
  refine wp_putI (pc := 2) dX7_install_2 fl_LevelStoreModel_89 (by first | assumption | exact Fx.ok (by assumption) (by decide)) rfl rfl (Or.inl rfl) ?_
  have h1 := h.z
  have hk1 := kC.z (I := I)
  generalize ab_u2 I 39 0 0 = J at h1 hk1 ⊢
  first | refine wp_aload_n (pc := 5) dX7_install_5 rfl ?_ | refine wp_aload_nN (pc := 5) dX7_install_5 rfl ?_
  refine wp_getI (pc := 6) dX7_install_6 fl_LevelStoreModel_143 (by first | assumption | exact Fx.ok (by assumption) (by decide)) rfl ?_
  refine wp_if_eq (pc := 9) (tgt := 19) dX7_install_9 (by decide) (fun hc => ?_) (fun hc => ?_)
  · have hjf := jb_f h1.jb.1 hc
    have hw0 := hno (fun q => by rw [hjf] at q; cases q.1)
    refine wp_ldc (pc := 19) (v := -1000003) dX7_install_19 cn_LevelStoreModel_136 ?_
    refine wp_ret (pc := 21) dX7_install_21 rfl (by first | trivial | exact Or.inl rfl | exact Or.inr rfl | assumption) ?_
    exact mP.id h1 hw0 hk1
  · have hjt := jb_t h1.jb.1 hc
    first | refine wp_aload_n (pc := 12) dX7_install_12 rfl ?_ | refine wp_aload_nN (pc := 12) dX7_install_12 rfl ?_
    refine wp_getI (pc := 13) dX7_install_13 fl_LevelStoreModel_147 (by first | assumption | exact Fx.ok (by assumption) (by decide)) rfl ?_
    rw [(h1.2 hjt).2]
    refine wp_if_ne (pc := 16) (tgt := 22) dX7_install_16 (by decide) (fun hc => ?_) (fun hc => ?_)
    · have hd : σ.don = σ.src.length := Decidable.byContradiction fun q => by rw [if_neg q] at hc; exact hc rfl
      first | refine wp_aload_n (pc := 22) dX7_install_22 rfl ?_ | refine wp_aload_nN (pc := 22) dX7_install_22 rfl ?_
      refine wp_getI (pc := 23) dX7_install_23 fl_LevelStoreModel_156 (by first | assumption | exact Fx.ok (by assumption) (by decide)) rfl ?_
      rw [h1.jb.2.1]
      refine wp_istore_n (pc := 26) dX7_install_26 (by decide) rfl ?_
      refine wp_iconst (pc := 27) (v := 0) dX7_install_27 (by decide) ?_
      refine wp_istore_n (pc := 28) dX7_install_28 (by decide) rfl ?_
      rw [hyes hjt hd]
      have hpo := hp' hjt
      refine m_inst_l1 hX _ (I0 := J) (lv := nI σ.tgt) (by rw [(h1.jb.2.2 hjt).1, Int32.sub_add_cancel]) _ (fun J2 hf2 h44 L2 hL2 => m_inst_91 hX h1.1 hjt hpo hl hs hk1 hf2 h44 L2 hL2) 330 0 _ J _ rfl rfl fM.rf (fun f q => by omega) (fun f q => ⟨rfl, rfl⟩) ⟨rfl, rfl, rfl, trivial⟩
    · have hw0 := hno (fun q => by rw [if_pos q.2] at hc; exact absurd hc (by decide))
      refine wp_ldc (pc := 19) (v := -1000003) dX7_install_19 cn_LevelStoreModel_136 ?_
      refine wp_ret (pc := 21) dX7_install_21 rfl (by first | trivial | exact Or.inl rfl | exact Or.inr rfl | assumption) ?_
      exact mP.id h1 hw0 hk1
/-! check -/
theorem m_ca_l1 (hX : Fx n S R) (f : Int32) {I0 : ab_II} (post : ab_Po) (hpost : ∀ J, fM I0 J [63, 64, 65] [] → (∀ i, i < 40 → J 63 i = I0 59 i ∧ J 64 i = I0 60 i ∧ J 65 i = I0 61 i) → ∀ L, ab_sub L [(0, .ref 39), (1, .int f)] → wp 2 44 0 0 MX7_codesAs 50 L [] (n, S, R, J) post) :
    ∀ (d t : Nat) (y : Int32) (J : ab_II) (L : List (Nat × Value)), 40 = t + d → y = nI t → fM I0 J [63, 64, 65] [] → (∀ i, i < t → J 63 i = I0 59 i ∧ J 64 i = I0 60 i ∧ J 65 i = I0 61 i) → ab_sub L [(0, .ref 39), (1, .int f), (2, .int y)] → wp 2 44 0 0 MX7_codesAs 2 L [] (n, S, R, J) post := by
  have z59 : (S 59).2 = 40 := hX.len (by decide)
  have z60 : (S 60).2 = 40 := hX.len (by decide)
  have z61 : (S 61).2 = 40 := hX.len (by decide)
  have z63 : (S 63).2 = 40 := hX.len (by decide)
  have z64 : (S 64).2 = 40 := hX.len (by decide)
  have z65 : (S 65).2 = 40 := hX.len (by decide)
  have t40 : (40 : Int32).toInt = 40 := by decide +kernel
  intro d
  induction d with
  | zero =>
    intro t y J L ht hy hf hv hL0
    refine wp_loc hL0 ?_
    have ey : y.toInt = t := by rw [hy, tI_n (by omega)]
    refine wp_iload_n (pc := 2) dX7_codesAs_2 rfl ?_
    refine wp_bipush (pc := 3) (v := 40) dX7_codesAs_3 (by decide) ?_
    refine wp_icmp_ge (pc := 5) (tgt := 50) dX7_codesAs_5 (by decide) (fun hc => ?_) (fun hc => ?_)
    · skip
      exact hpost J hf (fun i q => hv i (by omega)) _ ⟨rfl, rfl, trivial⟩
    · rw [t40] at hc; omega
  | succ d ih =>
    intro t y J L ht hy hf hv hL0
    refine wp_loc hL0 ?_
    have ey : y.toInt = t := by rw [hy, tI_n (by omega)]
    have cy : y.toNatClampNeg = t := by rw [tI_c]; omega
    refine wp_iload_n (pc := 2) dX7_codesAs_2 rfl ?_
    refine wp_bipush (pc := 3) (v := 40) dX7_codesAs_3 (by decide) ?_
    refine wp_icmp_ge (pc := 5) (tgt := 50) dX7_codesAs_5 (by decide) (fun hc => ?_) (fun hc => ?_)
    · rw [t40] at hc; omega
    · skip
      first | refine wp_aload_n (pc := 8) dX7_codesAs_8 rfl ?_ | refine wp_aload_nN (pc := 8) dX7_codesAs_8 rfl ?_
      refine wp_getR (pc := 9) dX7_codesAs_9 fl_LevelStoreModel_80 (by first | assumption | exact Fx.ok (by assumption) (by decide)) rfl (by first | assumption | exact Fx.ref (by assumption) rfl) ?_
      refine wp_iload_n (pc := 12) dX7_codesAs_12 rfl ?_
      first | refine wp_aload_n (pc := 13) dX7_codesAs_13 rfl ?_ | refine wp_aload_nN (pc := 13) dX7_codesAs_13 rfl ?_
      refine wp_getR (pc := 14) dX7_codesAs_14 fl_LevelStoreModel_68 (by first | assumption | exact Fx.ok (by assumption) (by decide)) rfl (by first | assumption | exact Fx.ref (by assumption) rfl) ?_
      refine wp_iload_n (pc := 17) dX7_codesAs_17 rfl ?_
      refine wp_iaload (pc := 18) dX7_codesAs_18 (by first | assumption | exact Fx.ok (by assumption) (by decide)) (in_I (by omega) (by rw [z59]; omega)) ?_
      rw [cy, hf.1 59 (by simp) (by decide)]
      refine wp_iastore (pc := 19) dX7_codesAs_19 (by first | assumption | exact Fx.ok (by assumption) (by decide)) (in_I (by omega) (by rw [z63]; omega)) ?_
      first | refine wp_aload_n (pc := 20) dX7_codesAs_20 rfl ?_ | refine wp_aload_nN (pc := 20) dX7_codesAs_20 rfl ?_
      refine wp_getR (pc := 21) dX7_codesAs_21 fl_LevelStoreModel_83 (by first | assumption | exact Fx.ok (by assumption) (by decide)) rfl (by first | assumption | exact Fx.ref (by assumption) rfl) ?_
      refine wp_iload_n (pc := 24) dX7_codesAs_24 rfl ?_
      first | refine wp_aload_n (pc := 25) dX7_codesAs_25 rfl ?_ | refine wp_aload_nN (pc := 25) dX7_codesAs_25 rfl ?_
      refine wp_getR (pc := 26) dX7_codesAs_26 fl_LevelStoreModel_71 (by first | assumption | exact Fx.ok (by assumption) (by decide)) rfl (by first | assumption | exact Fx.ref (by assumption) rfl) ?_
      refine wp_iload_n (pc := 29) dX7_codesAs_29 rfl ?_
      refine wp_iaload (pc := 30) dX7_codesAs_30 (by first | assumption | exact Fx.ok (by assumption) (by decide)) (in_I (by omega) (by rw [z60]; omega)) ?_
      rw [cy, ab_u2_r _ _ (by decide), hf.1 60 (by simp) (by decide)]
      refine wp_iastore (pc := 31) dX7_codesAs_31 (by first | assumption | exact Fx.ok (by assumption) (by decide)) (in_I (by omega) (by rw [z64]; omega)) ?_
      first | refine wp_aload_n (pc := 32) dX7_codesAs_32 rfl ?_ | refine wp_aload_nN (pc := 32) dX7_codesAs_32 rfl ?_
      refine wp_getR (pc := 33) dX7_codesAs_33 fl_LevelStoreModel_86 (by first | assumption | exact Fx.ok (by assumption) (by decide)) rfl (by first | assumption | exact Fx.ref (by assumption) rfl) ?_
      refine wp_iload_n (pc := 36) dX7_codesAs_36 rfl ?_
      first | refine wp_aload_n (pc := 37) dX7_codesAs_37 rfl ?_ | refine wp_aload_nN (pc := 37) dX7_codesAs_37 rfl ?_
      refine wp_getR (pc := 38) dX7_codesAs_38 fl_LevelStoreModel_74 (by first | assumption | exact Fx.ok (by assumption) (by decide)) rfl (by first | assumption | exact Fx.ref (by assumption) rfl) ?_
      refine wp_iload_n (pc := 41) dX7_codesAs_41 rfl ?_
      refine wp_iaload (pc := 42) dX7_codesAs_42 (by first | assumption | exact Fx.ok (by assumption) (by decide)) (in_I (by omega) (by rw [z61]; omega)) ?_
      rw [cy, ab_u2_n _ _ (Or.inl (by decide)), ab_u2_n _ _ (Or.inl (by decide)), hf.1 61 (by simp) (by decide)]
      refine wp_iastore (pc := 43) dX7_codesAs_43 (by first | assumption | exact Fx.ok (by assumption) (by decide)) (in_I (by omega) (by rw [z65]; omega)) ?_
      rw [cy]
      refine wp_iinc (pc := 44) dX7_codesAs_44 rfl (by decide) rfl ?_
      refine wp_goto (pc := 47) (tgt := 2) dX7_codesAs_47 (by decide) ?_
      refine ih (t + 1) _ _ _ (by omega) (by rw [hy]; exact nI_i1 t) (hf.tr1 (((fM.ua (by simp) (by decide)).tr1 (fM.ua (by simp) (by decide))).tr1 (fM.ua (by simp) (by decide)))) (fun i q => ?_) ⟨rfl, rfl, rfl, trivial⟩
      by_cases q2 : i = t
      · subst q2
        rw [ab_u2_n _ _ (Or.inl (by decide)), ab_u2_n _ _ (Or.inl (by decide)), ab_u2_s, ab_u2_n _ _ (Or.inl (by decide)), ab_u2_s, ab_u2_s]
        exact ⟨rfl, rfl, rfl⟩
      · rw [ab_u2_n _ _ (Or.inr q2), ab_u2_n _ _ (Or.inr q2), ab_u2_n _ _ (Or.inr q2), ab_u2_n _ _ (Or.inr q2), ab_u2_n _ _ (Or.inr q2), ab_u2_n _ _ (Or.inr q2), ab_u2_n _ _ (Or.inr q2), ab_u2_n _ _ (Or.inr q2), ab_u2_n _ _ (Or.inr q2)]
        exact hv i (by omega)
theorem m_ca_l4 (hX : Fx n S R) (f x2 : Int32) (hx2 : x2 = 0 ∨ x2 = 1) {I0 : ab_II} (post : ab_Po) (hpost : ∀ J, fM I0 J [59, 60, 61] [] → (∀ i, i < 40 → J 59 i = I0 63 i ∧ J 60 i = I0 64 i ∧ J 61 i = I0 65 i) → post (some (.int x2)) (n, S, R, J)) :
    ∀ (d t : Nat) (y : Int32) (J : ab_II) (L : List (Nat × Value)), 40 = t + d → y = nI t → fM I0 J [59, 60, 61] [] → (∀ i, i < t → J 59 i = I0 63 i ∧ J 60 i = I0 64 i ∧ J 61 i = I0 65 i) → ab_sub L [(0, .ref 39), (1, .int f), (2, .int x2), (3, .int y)] → wp 2 44 0 0 MX7_codesAs 192 L [] (n, S, R, J) post := by
  have z59 : (S 59).2 = 40 := hX.len (by decide)
  have z60 : (S 60).2 = 40 := hX.len (by decide)
  have z61 : (S 61).2 = 40 := hX.len (by decide)
  have z63 : (S 63).2 = 40 := hX.len (by decide)
  have z64 : (S 64).2 = 40 := hX.len (by decide)
  have z65 : (S 65).2 = 40 := hX.len (by decide)
  have t40 : (40 : Int32).toInt = 40 := by decide +kernel
  intro d
  induction d with
  | zero =>
    intro t y J L ht hy hf hv hL0
    refine wp_loc hL0 ?_
    have ey : y.toInt = t := by rw [hy, tI_n (by omega)]
    refine wp_iload_n (pc := 192) dX7_codesAs_192 rfl ?_
    refine wp_bipush (pc := 193) (v := 40) dX7_codesAs_193 (by decide) ?_
    refine wp_icmp_ge (pc := 195) (tgt := 240) dX7_codesAs_195 (by decide) (fun hc => ?_) (fun hc => ?_)
    · skip
      refine wp_iload_n (pc := 240) dX7_codesAs_240 rfl ?_
      refine wp_ret (pc := 241) dX7_codesAs_241 rfl (by first | trivial | exact Or.inl rfl | exact Or.inr rfl | assumption) ?_
      exact hpost J hf (fun i q => hv i (by omega))
    · rw [t40] at hc; omega
  | succ d ih =>
    intro t y J L ht hy hf hv hL0
    refine wp_loc hL0 ?_
    have ey : y.toInt = t := by rw [hy, tI_n (by omega)]
    have cy : y.toNatClampNeg = t := by rw [tI_c]; omega
    refine wp_iload_n (pc := 192) dX7_codesAs_192 rfl ?_
    refine wp_bipush (pc := 193) (v := 40) dX7_codesAs_193 (by decide) ?_
    refine wp_icmp_ge (pc := 195) (tgt := 240) dX7_codesAs_195 (by decide) (fun hc => ?_) (fun hc => ?_)
    · rw [t40] at hc; omega
    · skip
      first | refine wp_aload_n (pc := 198) dX7_codesAs_198 rfl ?_ | refine wp_aload_nN (pc := 198) dX7_codesAs_198 rfl ?_
      refine wp_getR (pc := 199) dX7_codesAs_199 fl_LevelStoreModel_68 (by first | assumption | exact Fx.ok (by assumption) (by decide)) rfl (by first | assumption | exact Fx.ref (by assumption) rfl) ?_
      refine wp_iload_n (pc := 202) dX7_codesAs_202 rfl ?_
      first | refine wp_aload_n (pc := 203) dX7_codesAs_203 rfl ?_ | refine wp_aload_nN (pc := 203) dX7_codesAs_203 rfl ?_
      refine wp_getR (pc := 204) dX7_codesAs_204 fl_LevelStoreModel_80 (by first | assumption | exact Fx.ok (by assumption) (by decide)) rfl (by first | assumption | exact Fx.ref (by assumption) rfl) ?_
      refine wp_iload_n (pc := 207) dX7_codesAs_207 rfl ?_
      refine wp_iaload (pc := 208) dX7_codesAs_208 (by first | assumption | exact Fx.ok (by assumption) (by decide)) (in_I (by omega) (by rw [z63]; omega)) ?_
      rw [cy, hf.1 63 (by simp) (by decide)]
      refine wp_iastore (pc := 209) dX7_codesAs_209 (by first | assumption | exact Fx.ok (by assumption) (by decide)) (in_I (by omega) (by rw [z59]; omega)) ?_
      first | refine wp_aload_n (pc := 210) dX7_codesAs_210 rfl ?_ | refine wp_aload_nN (pc := 210) dX7_codesAs_210 rfl ?_
      refine wp_getR (pc := 211) dX7_codesAs_211 fl_LevelStoreModel_71 (by first | assumption | exact Fx.ok (by assumption) (by decide)) rfl (by first | assumption | exact Fx.ref (by assumption) rfl) ?_
      refine wp_iload_n (pc := 214) dX7_codesAs_214 rfl ?_
      first | refine wp_aload_n (pc := 215) dX7_codesAs_215 rfl ?_ | refine wp_aload_nN (pc := 215) dX7_codesAs_215 rfl ?_
      refine wp_getR (pc := 216) dX7_codesAs_216 fl_LevelStoreModel_83 (by first | assumption | exact Fx.ok (by assumption) (by decide)) rfl (by first | assumption | exact Fx.ref (by assumption) rfl) ?_
      refine wp_iload_n (pc := 219) dX7_codesAs_219 rfl ?_
      refine wp_iaload (pc := 220) dX7_codesAs_220 (by first | assumption | exact Fx.ok (by assumption) (by decide)) (in_I (by omega) (by rw [z64]; omega)) ?_
      rw [cy, ab_u2_r _ _ (by decide), hf.1 64 (by simp) (by decide)]
      refine wp_iastore (pc := 221) dX7_codesAs_221 (by first | assumption | exact Fx.ok (by assumption) (by decide)) (in_I (by omega) (by rw [z60]; omega)) ?_
      first | refine wp_aload_n (pc := 222) dX7_codesAs_222 rfl ?_ | refine wp_aload_nN (pc := 222) dX7_codesAs_222 rfl ?_
      refine wp_getR (pc := 223) dX7_codesAs_223 fl_LevelStoreModel_74 (by first | assumption | exact Fx.ok (by assumption) (by decide)) rfl (by first | assumption | exact Fx.ref (by assumption) rfl) ?_
      refine wp_iload_n (pc := 226) dX7_codesAs_226 rfl ?_
      first | refine wp_aload_n (pc := 227) dX7_codesAs_227 rfl ?_ | refine wp_aload_nN (pc := 227) dX7_codesAs_227 rfl ?_
      refine wp_getR (pc := 228) dX7_codesAs_228 fl_LevelStoreModel_86 (by first | assumption | exact Fx.ok (by assumption) (by decide)) rfl (by first | assumption | exact Fx.ref (by assumption) rfl) ?_
      refine wp_iload_n (pc := 231) dX7_codesAs_231 rfl ?_
      refine wp_iaload (pc := 232) dX7_codesAs_232 (by first | assumption | exact Fx.ok (by assumption) (by decide)) (in_I (by omega) (by rw [z65]; omega)) ?_
      rw [cy, ab_u2_n _ _ (Or.inl (by decide)), ab_u2_n _ _ (Or.inl (by decide)), hf.1 65 (by simp) (by decide)]
      refine wp_iastore (pc := 233) dX7_codesAs_233 (by first | assumption | exact Fx.ok (by assumption) (by decide)) (in_I (by omega) (by rw [z61]; omega)) ?_
      rw [cy]
      refine wp_iinc (pc := 234) dX7_codesAs_234 rfl (by decide) rfl ?_
      refine wp_goto (pc := 237) (tgt := 192) dX7_codesAs_237 (by decide) ?_
      refine ih (t + 1) _ _ _ (by omega) (by rw [hy]; exact nI_i1 t) (hf.tr1 (((fM.ua (by simp) (by decide)).tr1 (fM.ua (by simp) (by decide))).tr1 (fM.ua (by simp) (by decide)))) (fun i q => ?_) ⟨rfl, rfl, rfl, rfl, trivial⟩
      by_cases q2 : i = t
      · subst q2
        rw [ab_u2_n _ _ (Or.inl (by decide)), ab_u2_n _ _ (Or.inl (by decide)), ab_u2_s, ab_u2_n _ _ (Or.inl (by decide)), ab_u2_s, ab_u2_s]
        exact ⟨rfl, rfl, rfl⟩
      · rw [ab_u2_n _ _ (Or.inr q2), ab_u2_n _ _ (Or.inr q2), ab_u2_n _ _ (Or.inr q2), ab_u2_n _ _ (Or.inr q2), ab_u2_n _ _ (Or.inr q2), ab_u2_n _ _ (Or.inr q2), ab_u2_n _ _ (Or.inr q2), ab_u2_n _ _ (Or.inr q2), ab_u2_n _ _ (Or.inr q2)]
        exact hv i (by omega)
theorem m_ca_l2 (hX : Fx n S R) {f : Nat} (hf : f < 330) {I0 : ab_II} {F : FA} (hs : slOK I0 f F) (post : ab_Po) (hpost : ∀ J, fM I0 J [59, 60, 61] [] → arr3 J 59 60 61 0 F.es → ∀ L, ab_sub L [(0, .ref 39), (1, .int (nI f))] → wp 2 44 0 0 MX7_codesAs 119 L [] (n, S, R, J) post) :
    ∀ (d t : Nat) (y : Int32) (J : ab_II) (L : List (Nat × Value)), F.es.length = t + d → y = nI t → fM I0 J [59, 60, 61] [] → arr3 J 59 60 61 0 (F.es.take t) → ab_sub L [(0, .ref 39), (1, .int (nI f)), (2, .int y)] → wp 2 44 0 0 MX7_codesAs 52 L [] (n, S, R, J) post := by
  have z48 : (S 48).2 = 330 := hX.len (by decide)
  have z49 : (S 49).2 = 9900 := hX.len (by decide)
  have z50 : (S 50).2 = 9900 := hX.len (by decide)
  have z51 : (S 51).2 = 9900 := hX.len (by decide)
  have z59 : (S 59).2 = 40 := hX.len (by decide)
  have z60 : (S 60).2 = 40 := hX.len (by decide)
  have z61 : (S 61).2 = 40 := hX.len (by decide)
  have ef : (nI f).toInt = f := tI_n (by omega)
  have cf : (nI f).toNatClampNeg = f := nI_c (by omega)
  obtain ⟨s1, s2, s3, s4, s5, s6⟩ := hs
  have e48 : (I0 48 f).toInt = F.es.length := by rw [s4, tI_n (by omega)]
  intro d
  induction d with
  | zero =>
    intro t y J L ht hy hfm ha hL0
    refine wp_loc hL0 ?_
    have ey : y.toInt = t := by rw [hy, tI_n (by omega)]
    rw [List.take_of_length_le (by omega)] at ha
    refine wp_iload_n (pc := 52) dX7_codesAs_52 rfl ?_
    first | refine wp_aload_n (pc := 53) dX7_codesAs_53 rfl ?_ | refine wp_aload_nN (pc := 53) dX7_codesAs_53 rfl ?_
    refine wp_getR (pc := 54) dX7_codesAs_54 fl_LevelStoreModel_34 (by first | assumption | exact Fx.ok (by assumption) (by decide)) rfl (by first | assumption | exact Fx.ref (by assumption) rfl) ?_
    refine wp_iload_n (pc := 57) dX7_codesAs_57 rfl ?_
    refine wp_iaload (pc := 58) dX7_codesAs_58 (by first | assumption | exact Fx.ok (by assumption) (by decide)) (in_I (by omega) (by rw [z48]; omega)) ?_
    rw [cf, hfm.1 48 (by simp) (by decide)]
    refine wp_icmp_ge (pc := 59) (tgt := 119) dX7_codesAs_59 (by decide) (fun hc => ?_) (fun hc => ?_)
    · skip
      exact hpost J hfm ha _ ⟨rfl, rfl, trivial⟩
    · omega
  | succ d ih =>
    intro t y J L ht hy hfm ha hL0
    refine wp_loc hL0 ?_
    have ey : y.toInt = t := by rw [hy, tI_n (by omega)]
    have cy : y.toNatClampNeg = t := by rw [tI_c]; omega
    have ei : nI (30 * f) + y = nI (30 * f + t) := by rw [hy]; exact nI_add _ _
    have ei2 : (nI (30 * f + t)).toInt = ((30 * f + t : Nat) : Int) := tI_n (by omega)
    have ci : (nI (30 * f + t)).toNatClampNeg = 30 * f + t := nI_c (by omega)
    obtain ⟨e, eg⟩ : ∃ e, F.es[t]? = some e := ⟨_, List.getElem?_eq_getElem (by omega)⟩
    obtain ⟨a1, a2, a3⟩ := s6 t e eg
    refine wp_iload_n (pc := 52) dX7_codesAs_52 rfl ?_
    first | refine wp_aload_n (pc := 53) dX7_codesAs_53 rfl ?_ | refine wp_aload_nN (pc := 53) dX7_codesAs_53 rfl ?_
    refine wp_getR (pc := 54) dX7_codesAs_54 fl_LevelStoreModel_34 (by first | assumption | exact Fx.ok (by assumption) (by decide)) rfl (by first | assumption | exact Fx.ref (by assumption) rfl) ?_
    refine wp_iload_n (pc := 57) dX7_codesAs_57 rfl ?_
    refine wp_iaload (pc := 58) dX7_codesAs_58 (by first | assumption | exact Fx.ok (by assumption) (by decide)) (in_I (by omega) (by rw [z48]; omega)) ?_
    rw [cf, hfm.1 48 (by simp) (by decide)]
    refine wp_icmp_ge (pc := 59) (tgt := 119) dX7_codesAs_59 (by decide) (fun hc => ?_) (fun hc => ?_)
    · omega
    · skip
      first | refine wp_aload_n (pc := 62) dX7_codesAs_62 rfl ?_ | refine wp_aload_nN (pc := 62) dX7_codesAs_62 rfl ?_
      refine wp_getR (pc := 63) dX7_codesAs_63 fl_LevelStoreModel_68 (by first | assumption | exact Fx.ok (by assumption) (by decide)) rfl (by first | assumption | exact Fx.ref (by assumption) rfl) ?_
      refine wp_iload_n (pc := 66) dX7_codesAs_66 rfl ?_
      first | refine wp_aload_n (pc := 67) dX7_codesAs_67 rfl ?_ | refine wp_aload_nN (pc := 67) dX7_codesAs_67 rfl ?_
      refine wp_getR (pc := 68) dX7_codesAs_68 fl_LevelStoreModel_37 (by first | assumption | exact Fx.ok (by assumption) (by decide)) rfl (by first | assumption | exact Fx.ref (by assumption) rfl) ?_
      refine wp_bipush (pc := 71) (v := 30) dX7_codesAs_71 (by decide) ?_
      refine wp_iload_n (pc := 73) dX7_codesAs_73 rfl ?_
      refine wp_imul (pc := 74) dX7_codesAs_74 ?_
      rw [i30]
      refine wp_iload_n (pc := 75) dX7_codesAs_75 rfl ?_
      refine wp_iadd (pc := 76) dX7_codesAs_76 ?_
      rw [ei]
      refine wp_iaload (pc := 77) dX7_codesAs_77 (by first | assumption | exact Fx.ok (by assumption) (by decide)) (in_I (by omega) (by rw [z49]; omega)) ?_
      rw [ci, hfm.1 49 (by simp) (by decide), a1]
      refine wp_iastore (pc := 78) dX7_codesAs_78 (by first | assumption | exact Fx.ok (by assumption) (by decide)) (in_I (by omega) (by rw [z59]; omega)) ?_
      first | refine wp_aload_n (pc := 79) dX7_codesAs_79 rfl ?_ | refine wp_aload_nN (pc := 79) dX7_codesAs_79 rfl ?_
      refine wp_getR (pc := 80) dX7_codesAs_80 fl_LevelStoreModel_71 (by first | assumption | exact Fx.ok (by assumption) (by decide)) rfl (by first | assumption | exact Fx.ref (by assumption) rfl) ?_
      refine wp_iload_n (pc := 83) dX7_codesAs_83 rfl ?_
      first | refine wp_aload_n (pc := 84) dX7_codesAs_84 rfl ?_ | refine wp_aload_nN (pc := 84) dX7_codesAs_84 rfl ?_
      refine wp_getR (pc := 85) dX7_codesAs_85 fl_LevelStoreModel_40 (by first | assumption | exact Fx.ok (by assumption) (by decide)) rfl (by first | assumption | exact Fx.ref (by assumption) rfl) ?_
      refine wp_bipush (pc := 88) (v := 30) dX7_codesAs_88 (by decide) ?_
      refine wp_iload_n (pc := 90) dX7_codesAs_90 rfl ?_
      refine wp_imul (pc := 91) dX7_codesAs_91 ?_
      rw [i30]
      refine wp_iload_n (pc := 92) dX7_codesAs_92 rfl ?_
      refine wp_iadd (pc := 93) dX7_codesAs_93 ?_
      rw [ei]
      refine wp_iaload (pc := 94) dX7_codesAs_94 (by first | assumption | exact Fx.ok (by assumption) (by decide)) (in_I (by omega) (by rw [z50]; omega)) ?_
      rw [ci, ab_u2_r _ _ (by decide), hfm.1 50 (by simp) (by decide), a2]
      refine wp_iastore (pc := 95) dX7_codesAs_95 (by first | assumption | exact Fx.ok (by assumption) (by decide)) (in_I (by omega) (by rw [z60]; omega)) ?_
      first | refine wp_aload_n (pc := 96) dX7_codesAs_96 rfl ?_ | refine wp_aload_nN (pc := 96) dX7_codesAs_96 rfl ?_
      refine wp_getR (pc := 97) dX7_codesAs_97 fl_LevelStoreModel_74 (by first | assumption | exact Fx.ok (by assumption) (by decide)) rfl (by first | assumption | exact Fx.ref (by assumption) rfl) ?_
      refine wp_iload_n (pc := 100) dX7_codesAs_100 rfl ?_
      first | refine wp_aload_n (pc := 101) dX7_codesAs_101 rfl ?_ | refine wp_aload_nN (pc := 101) dX7_codesAs_101 rfl ?_
      refine wp_getR (pc := 102) dX7_codesAs_102 fl_LevelStoreModel_43 (by first | assumption | exact Fx.ok (by assumption) (by decide)) rfl (by first | assumption | exact Fx.ref (by assumption) rfl) ?_
      refine wp_bipush (pc := 105) (v := 30) dX7_codesAs_105 (by decide) ?_
      refine wp_iload_n (pc := 107) dX7_codesAs_107 rfl ?_
      refine wp_imul (pc := 108) dX7_codesAs_108 ?_
      rw [i30]
      refine wp_iload_n (pc := 109) dX7_codesAs_109 rfl ?_
      refine wp_iadd (pc := 110) dX7_codesAs_110 ?_
      rw [ei]
      refine wp_iaload (pc := 111) dX7_codesAs_111 (by first | assumption | exact Fx.ok (by assumption) (by decide)) (in_I (by omega) (by rw [z51]; omega)) ?_
      rw [ci, ab_u2_n _ _ (Or.inl (by decide)), ab_u2_n _ _ (Or.inl (by decide)), hfm.1 51 (by simp) (by decide), a3]
      refine wp_iastore (pc := 112) dX7_codesAs_112 (by first | assumption | exact Fx.ok (by assumption) (by decide)) (in_I (by omega) (by rw [z61]; omega)) ?_
      rw [cy]
      refine wp_iinc (pc := 113) dX7_codesAs_113 rfl (by decide) rfl ?_
      refine wp_goto (pc := 116) (tgt := 52) dX7_codesAs_116 (by decide) ?_
      refine ih (t + 1) _ _ _ (by omega) (by rw [hy]; exact nI_i1 t) (hfm.tr1 (((fM.ua (by simp) (by decide)).tr1 (fM.ua (by simp) (by decide))).tr1 (fM.ua (by simp) (by decide)))) ?_ ⟨rfl, rfl, rfl, trivial⟩
      have hlt : (F.es.take t).length = t := by rw [List.length_take]; omega
      rw [td_succ eg]
      refine arr3_push ha (fun i hi => ?_) (fun i hi => ?_) (fun i hi => ?_) ?_ ?_ ?_
      · rw [ab_u2_n _ _ (Or.inl (by decide)), ab_u2_n _ _ (Or.inl (by decide)), ab_u2_n _ _ (Or.inr (by omega))]
      · rw [ab_u2_n _ _ (Or.inl (by decide)), ab_u2_n _ _ (Or.inr (by omega)), ab_u2_n _ _ (Or.inl (by decide))]
      · rw [ab_u2_n _ _ (Or.inr (by omega)), ab_u2_n _ _ (Or.inl (by decide)), ab_u2_n _ _ (Or.inl (by decide))]
      · rw [hlt, Nat.zero_add, ab_u2_n _ _ (Or.inl (by decide)), ab_u2_n _ _ (Or.inl (by decide)), ab_u2_s]
      · rw [hlt, Nat.zero_add, ab_u2_n _ _ (Or.inl (by decide)), ab_u2_s]
      · rw [hlt, Nat.zero_add, ab_u2_s]
end M19
