/-! THE LAW: one call on each side -/
abbrev ML_law : ab_MT := (yL_law, cL_law, 4, some .boolean)
def LI (Ls : Nat) (xs : Nat → Int32) (t n : Nat) (S : ab_SH) (R : ab_RR) (I : ab_II) : Prop := ∃ (σ : St) (A : AC) (P : Nat → List Nat) (sp : List FA) (SL : Nat → List Nat), Inv t σ ∧ RC σ n S R I A P sp ∧ RM σ I SL ∧ (S 2).2 = Ls ∧ I 2 = xs
section LW
variable {σ : St} {t n Ls : Nat} {xs : Nat → Int32} {S : ab_SH} {R : ab_RR} {I : ab_II} {A : AC} {P : Nat → List Nat} {sp : List FA} {SL : Nat → List Nat}
theorem RC.mono (h : RC σ n S R I A P sp) {I' : ab_II} (hk : kC I I') : RC σ n S R I' A P sp := by
  have k : ∀ j, j < 39 → I' j = I j := fun j hj => hk j (Or.inl hj)
  refine ⟨⟨h.fx, h.lF.keep (fun i hi => k _ (by have := xk_in hi; omega)) (fun j hj => hk j (Or.inr hj)), h.tp⟩, ⟨h.lg.keep (k _ (by decide)) (k _ (by decide)) (k _ (by decide)) (k _ (by decide)), ?_, by rw [k _ (by decide)]; exact h.v, by rw [k _ (by decide)]; exact h.b, by rw [k 22 (by decide)]; exact h.tk⟩, ?_, h.sr.keep (k _ (by decide)) (k _ (by decide)) (k _ (by decide)) (k _ (by decide)), h.mk.keep (k _ (by decide)) (k _ (by decide)) (k _ (by decide)) (k _ (by decide)), fun i hi => by rw [k 32 (by decide)]; exact h.bits i hi⟩
  · have := h.c3
    unfold rC3 at this ⊢
    rw [k 3 (by decide)]
    exact this
  · have := h.cj
    unfold rCJ at this ⊢
    rw [k 27 (by decide)]
    exact this
theorem RM.mono (h : RM σ I SL) {I' : ab_II} (hk : kM I I') : RM σ I' SL := by
  have k : ∀ j, 39 ≤ j → j < 66 → I' j = I j := fun j h1 h2 => hk j (Or.inr ⟨h1, h2⟩)
  have e39 := k 39 (by decide) (by decide)
  refine ⟨⟨⟨by rw [e39]; exact h.lg.1, h.lg.2.keep (k _ (by decide) (by decide)) (k _ (by decide) (by decide)) (k _ (by decide) (by decide))⟩, ⟨by rw [e39]; exact h.dt.1, by rw [e39]; exact h.dt.2.1, fun i q => by rw [k 43 (by decide) (by decide)]; exact h.dt.2.2 i q⟩, h.sl.keep (fun j h1 h2 => k j (by omega) (by omega)), ⟨by rw [e39]; exact h.fd.1, fun j q => by rw [k 52 (by decide) (by decide)]; exact h.fd.2 j q⟩, ⟨by rw [e39]; exact h.jb.1, by rw [e39]; exact h.jb.2.1, fun q => (h.jb.2.2 q).keep (fun j h1 h2 => k j (by omega) (by omega)) (by rw [e39]) (by rw [e39]) (by rw [e39]) (by rw [e39])⟩⟩, fun q => ⟨by rw [e39]; exact (h.2 q).1, by rw [e39]; exact (h.2 q).2⟩⟩
theorem get_2 {k : Int32} : (σ.get k).2 = σ := by unfold St.get; split <;> rfl
theorem view_2 {v k : Int32} : (σ.view v k).2 = σ := by
  unfold St.view
  split
  · split <;> rfl
  · rfl
theorem next_2 {v k : Int32} : (σ.next v k).2 = σ := by
  unfold St.next
  split
  · split <;> rfl
  · rfl
theorem high_2 : σ.high.2 = σ := by
  unfold St.high
  split
  · rfl
  · split
    · rfl
    · split <;> rfl
theorem file_2 {l i w : Int32} : (σ.file l i w).2 = σ := by unfold St.file; split <;> rfl
theorem entry_2 {l i k w : Int32} : (σ.entry l i k w).2 = σ := by unfold St.entry; split <;> rfl
theorem byteAt_2 {i : Int32} : (σ.byteAt i).2 = σ := by unfold St.byteAt; split <;> rfl
theorem Inv.jd (h : Inv t σ) : σ.job = true → σ.don ≤ σ.src.length ∧ σ.src.length ≤ 512 := fun hj => by
  rcases h.2 with q | ⟨-, q, -⟩ | ⟨q, -⟩
  · rw [q.1] at hj; cases hj
  · exact ⟨q.2.1.1.2.2.1, q.2.1.len q.1⟩
  · exact ⟨q.2.1.1.2.2.1, q.2.1.len q.1⟩
theorem Inv.po (h : Inv t σ) : σ.job = true → posOK σ := fun hj => by
  rcases h.2 with q | ⟨-, q, -⟩ | ⟨q, -⟩
  · rw [q.1] at hj; cases hj
  · exact q.2.1.2.1
  · exact q.2.1.2.1
theorem Inv.wk (h : Inv t σ) : σ.job = true → σ.don < σ.src.length → Wk t σ := fun hj hd => by
  rcases h.2 with q | ⟨-, q, -⟩ | ⟨q, -⟩
  · rw [q.1] at hj; cases hj
  · exact q
  · have := q.2.2.1; omega
theorem Inv.mk24 (h : Inv t σ) : σ.job = true → σ.mak.length ≤ 24 := fun hj => by
  rcases h.2 with q | ⟨-, q, -⟩ | ⟨q, -⟩
  · rw [q.1] at hj; cases hj
  · exact q.vk.2.2
  · rw [q.2.2.2.1]; exact Nat.zero_le _
theorem ofs (a : Nat) : nI a + 1 = nI (a + 1) ∧ nI a + 2 = nI (a + 2) ∧ nI a + 3 = nI (a + 3) ∧ nI a + 4 = nI (a + 4) := ⟨nI_1 a, nI_add a 2, nI_add a 3, nI_add a 4⟩
theorem ofsI {L : Nat} {a k : Nat} (h : a + k < L) (hL : L ≤ 2560) : vp_in (nI (a + k)) L := in_N h (by omega)
theorem law_put {mc ms : Nat} {post : ab_Po} (hLI : LI Ls xs t n S R I) (ht : t + 1 ≤ 512) (hL5 : 5 * t + 5 ≤ Ls) (hLs : Ls ≤ 2560) (hk : ∀ n S R I, LI Ls xs (t + 1) n S R I → ∀ L, ab_sub L [(0, .ref 2), (1, .ref 3), (2, .ref 39), (3, .int (nI (5 * t)))] → wp 13 494 mc ms ML_law 682 L [] (n, S, R, I) post) (L : List (Nat × Value)) (hL : ab_sub L [(0, .ref 2), (1, .ref 3), (2, .ref 39), (3, .int (nI (5 * t)))]) : wp 13 494 (mc + 650) (ms + 11600) ML_law 136 L [] (n, S, R, I) post := by
  refine wp_loc hL ?_
  obtain ⟨σ, A, P, sp, SL, hI, hC, hM, hS, hX2⟩ := hLI
  have b := hI.1
  obtain ⟨hl, hs, hnt, ht5, hV⟩ := b.a
  have hn : σ.num ≤ 60000 := by omega
  have hP := b.plc
  have hnf : (σ.FS 5).length ≤ σ.nf := b.n.1
  have hkB := b.kb
  have hu := b.uq
  have hid := hI.idle
  have hmo := b.mok
  have hjd := hI.jd
  have hpo := hI.po
  have hwk := hI.wk
  have hok : ∀ k, k < 4 → ∀ F ∈ σ.FS k, FOK σ.B F := fun k hk F hF => (b.f k (Or.inl hk) F hF).1
  have hsr := b.srt
  have hdi := b.l
  have hlg := b.lg
  have hsE := b.srE
  have hmx : ∀ e ∈ allE σ, e.2.1.toInt ≤ σ.num := fun e he => (b.e e he).2
  have h5 : σ.job = false → σ.FS 5 = [] := hI.nojob
  have hmk := hI.mk24
  first | refine wp_aload_n (pc := 136) dL_law_136 rfl ?_ | refine wp_aload_nN (pc := 136) dL_law_136 rfl ?_
  first | refine wp_aload_n (pc := 137) dL_law_137 rfl ?_ | refine wp_aload_nN (pc := 137) dL_law_137 rfl ?_
  refine wp_iload_n (pc := 138) dL_law_138 rfl ?_
  refine wp_iconst (pc := 139) (v := 1) dL_law_139 (by decide) ?_
  refine wp_iadd (pc := 140) dL_law_140 ?_
  rw [(ofs (5 * t)).1]
  refine wp_saload (pc := 141) dL_law_141 (by rw [hS]; exact ofsI (by omega) hLs) ?_
  first | refine wp_aload_n (pc := 142) dL_law_142 rfl ?_ | refine wp_aload_nN (pc := 142) dL_law_142 rfl ?_
  refine wp_iload_n (pc := 143) dL_law_143 rfl ?_
  refine wp_iconst (pc := 144) (v := 2) dL_law_144 (by decide) ?_
  refine wp_iadd (pc := 145) dL_law_145 ?_
  rw [(ofs (5 * t)).2.1]
  refine wp_saload (pc := 146) dL_law_146 (by rw [hS]; exact ofsI (by omega) hLs) ?_
  refine cv_LevelStoreLaw_13 (pc := 147) (wp_room (mc := 650) (ms := 11600) (by decide) (by decide) (s_put hC hl hn (I 2 (nI (5 * t + 1)).toNatClampNeg) (I 2 (nI (5 * t + 2)).toNatClampNeg))) rfl dL_law_147 (hC.fx.ok (by decide)) ⟨by decide, by decide, Nat.le_add_left _ _, Nat.le_add_left _ _⟩ (Nat.le_of_ble_eq_true rfl) (fun v h hp => ?_)
  obtain ⟨n1, S1, R1, I1, A1, P1, sp1, rfl, rfl, he1, hC1, hk1⟩ := hp.out
  have hX1 := hC1.fx
  have hM1 := hM.mono hk1
  have hS1 : (S1 2).2 = Ls := by rw [he1.2.1 2 (by have := hC.fx.1; omega)]; exact hS
  first | refine wp_aload_n (pc := 150) dL_law_150 rfl ?_ | refine wp_aload_nN (pc := 150) dL_law_150 rfl ?_
  first | refine wp_aload_n (pc := 151) dL_law_151 rfl ?_ | refine wp_aload_nN (pc := 151) dL_law_151 rfl ?_
  refine wp_iload_n (pc := 152) dL_law_152 rfl ?_
  refine wp_iconst (pc := 153) (v := 1) dL_law_153 (by decide) ?_
  refine wp_iadd (pc := 154) dL_law_154 ?_
  rw [(ofs (5 * t)).1]
  refine wp_saload (pc := 155) dL_law_155 (by rw [hS1]; exact ofsI (by omega) hLs) ?_
  rw [hk1 2 (Or.inl rfl)]
  first | refine wp_aload_n (pc := 156) dL_law_156 rfl ?_ | refine wp_aload_nN (pc := 156) dL_law_156 rfl ?_
  refine wp_iload_n (pc := 157) dL_law_157 rfl ?_
  refine wp_iconst (pc := 158) (v := 2) dL_law_158 (by decide) ?_
  refine wp_iadd (pc := 159) dL_law_159 ?_
  rw [(ofs (5 * t)).2.1]
  refine wp_saload (pc := 160) dL_law_160 (by rw [hS1]; exact ofsI (by omega) hLs) ?_
  rw [hk1 2 (Or.inl rfl)]
  refine cv_LevelStoreLaw_17 (pc := 161) (m_put hX1 hM1 hl hn (I 2 (nI (5 * t + 1)).toNatClampNeg) (I 2 (nI (5 * t + 2)).toNatClampNeg)) rfl dL_law_161 (hX1.ok (by decide)) ⟨by decide, by decide, Nat.zero_le _, Nat.zero_le _⟩ (Nat.le_of_ble_eq_true rfl) (fun v h hp => ?_)
  obtain ⟨I2, SL2, rfl, rfl, hM2, hk2⟩ := hp.out
  refine wp_icmp_eq (pc := 164) (tgt := 682) dL_law_164 (by decide) (fun hc => ?_) (fun hc => ?_)
  · skip
    refine wp_room (by omega) (by omega) (hk n1 S1 R1 I2 ⟨(σ.put (I 2 (nI (5 * t + 1)).toNatClampNeg) (I 2 (nI (5 * t + 2)).toNatClampNeg)).2, A1, P1, sp1, SL2, hI.put ht (I 2 (nI (5 * t + 1)).toNatClampNeg) (I 2 (nI (5 * t + 2)).toNatClampNeg), hC1.mono hk2, hM2, hS1, ?_⟩ _ ⟨rfl, rfl, rfl, rfl, trivial⟩)
    rw [hk2 2 (Or.inl (by decide)), hk1 2 (Or.inl rfl)]; exact hX2
  · exact absurd rfl hc
theorem law_drop {mc ms : Nat} {post : ab_Po} (hLI : LI Ls xs t n S R I) (ht : t + 1 ≤ 512) (hL5 : 5 * t + 5 ≤ Ls) (hLs : Ls ≤ 2560) (hk : ∀ n S R I, LI Ls xs (t + 1) n S R I → ∀ L, ab_sub L [(0, .ref 2), (1, .ref 3), (2, .ref 39), (3, .int (nI (5 * t)))] → wp 13 494 mc ms ML_law 682 L [] (n, S, R, I) post) (L : List (Nat × Value)) (hL : ab_sub L [(0, .ref 2), (1, .ref 3), (2, .ref 39), (3, .int (nI (5 * t)))]) : wp 13 494 (mc + 650) (ms + 11600) ML_law 169 L [] (n, S, R, I) post := by
  refine wp_loc hL ?_
  obtain ⟨σ, A, P, sp, SL, hI, hC, hM, hS, hX2⟩ := hLI
  have b := hI.1
  obtain ⟨hl, hs, hnt, ht5, hV⟩ := b.a
  have hn : σ.num ≤ 60000 := by omega
  have hP := b.plc
  have hnf : (σ.FS 5).length ≤ σ.nf := b.n.1
  have hkB := b.kb
  have hu := b.uq
  have hid := hI.idle
  have hmo := b.mok
  have hjd := hI.jd
  have hpo := hI.po
  have hwk := hI.wk
  have hok : ∀ k, k < 4 → ∀ F ∈ σ.FS k, FOK σ.B F := fun k hk F hF => (b.f k (Or.inl hk) F hF).1
  have hsr := b.srt
  have hdi := b.l
  have hlg := b.lg
  have hsE := b.srE
  have hmx : ∀ e ∈ allE σ, e.2.1.toInt ≤ σ.num := fun e he => (b.e e he).2
  have h5 : σ.job = false → σ.FS 5 = [] := hI.nojob
  have hmk := hI.mk24
  first | refine wp_aload_n (pc := 169) dL_law_169 rfl ?_ | refine wp_aload_nN (pc := 169) dL_law_169 rfl ?_
  first | refine wp_aload_n (pc := 170) dL_law_170 rfl ?_ | refine wp_aload_nN (pc := 170) dL_law_170 rfl ?_
  refine wp_iload_n (pc := 171) dL_law_171 rfl ?_
  refine wp_iconst (pc := 172) (v := 1) dL_law_172 (by decide) ?_
  refine wp_iadd (pc := 173) dL_law_173 ?_
  rw [(ofs (5 * t)).1]
  refine wp_saload (pc := 174) dL_law_174 (by rw [hS]; exact ofsI (by omega) hLs) ?_
  refine cv_LevelStoreLaw_18 (pc := 175) (wp_room (mc := 650) (ms := 11600) (by decide) (by decide) (s_drop hC hl hn (I 2 (nI (5 * t + 1)).toNatClampNeg))) rfl dL_law_175 (hC.fx.ok (by decide)) ⟨by decide, by decide, Nat.le_add_left _ _, Nat.le_add_left _ _⟩ (Nat.le_of_ble_eq_true rfl) (fun v h hp => ?_)
  obtain ⟨n1, S1, R1, I1, A1, P1, sp1, rfl, rfl, he1, hC1, hk1⟩ := hp.out
  have hX1 := hC1.fx
  have hM1 := hM.mono hk1
  have hS1 : (S1 2).2 = Ls := by rw [he1.2.1 2 (by have := hC.fx.1; omega)]; exact hS
  first | refine wp_aload_n (pc := 178) dL_law_178 rfl ?_ | refine wp_aload_nN (pc := 178) dL_law_178 rfl ?_
  first | refine wp_aload_n (pc := 179) dL_law_179 rfl ?_ | refine wp_aload_nN (pc := 179) dL_law_179 rfl ?_
  refine wp_iload_n (pc := 180) dL_law_180 rfl ?_
  refine wp_iconst (pc := 181) (v := 1) dL_law_181 (by decide) ?_
  refine wp_iadd (pc := 182) dL_law_182 ?_
  rw [(ofs (5 * t)).1]
  refine wp_saload (pc := 183) dL_law_183 (by rw [hS1]; exact ofsI (by omega) hLs) ?_
  rw [hk1 2 (Or.inl rfl)]
  refine cv_LevelStoreLaw_22 (pc := 184) (m_drop hX1 hM1 hl hn (I 2 (nI (5 * t + 1)).toNatClampNeg)) rfl dL_law_184 (hX1.ok (by decide)) ⟨by decide, by decide, Nat.zero_le _, Nat.zero_le _⟩ (Nat.le_of_ble_eq_true rfl) (fun v h hp => ?_)
  obtain ⟨I2, SL2, rfl, rfl, hM2, hk2⟩ := hp.out
  refine wp_icmp_eq (pc := 187) (tgt := 682) dL_law_187 (by decide) (fun hc => ?_) (fun hc => ?_)
  · skip
    refine wp_room (by omega) (by omega) (hk n1 S1 R1 I2 ⟨(σ.drop (I 2 (nI (5 * t + 1)).toNatClampNeg)).2, A1, P1, sp1, SL2, hI.drop ht (I 2 (nI (5 * t + 1)).toNatClampNeg), hC1.mono hk2, hM2, hS1, ?_⟩ _ ⟨rfl, rfl, rfl, rfl, trivial⟩)
    rw [hk2 2 (Or.inl (by decide)), hk1 2 (Or.inl rfl)]; exact hX2
  · exact absurd rfl hc
theorem law_sync {mc ms : Nat} {post : ab_Po} (hLI : LI Ls xs t n S R I) (ht : t + 1 ≤ 512) (hL5 : 5 * t + 5 ≤ Ls) (hLs : Ls ≤ 2560) (hk : ∀ n S R I, LI Ls xs (t + 1) n S R I → ∀ L, ab_sub L [(0, .ref 2), (1, .ref 3), (2, .ref 39), (3, .int (nI (5 * t)))] → wp 13 494 mc ms ML_law 682 L [] (n, S, R, I) post) (L : List (Nat × Value)) (hL : ab_sub L [(0, .ref 2), (1, .ref 3), (2, .ref 39), (3, .int (nI (5 * t)))]) : wp 13 494 (mc + 650) (ms + 11600) ML_law 192 L [] (n, S, R, I) post := by
  refine wp_loc hL ?_
  obtain ⟨σ, A, P, sp, SL, hI, hC, hM, hS, hX2⟩ := hLI
  have b := hI.1
  obtain ⟨hl, hs, hnt, ht5, hV⟩ := b.a
  have hn : σ.num ≤ 60000 := by omega
  have hP := b.plc
  have hnf : (σ.FS 5).length ≤ σ.nf := b.n.1
  have hkB := b.kb
  have hu := b.uq
  have hid := hI.idle
  have hmo := b.mok
  have hjd := hI.jd
  have hpo := hI.po
  have hwk := hI.wk
  have hok : ∀ k, k < 4 → ∀ F ∈ σ.FS k, FOK σ.B F := fun k hk F hF => (b.f k (Or.inl hk) F hF).1
  have hsr := b.srt
  have hdi := b.l
  have hlg := b.lg
  have hsE := b.srE
  have hmx : ∀ e ∈ allE σ, e.2.1.toInt ≤ σ.num := fun e he => (b.e e he).2
  have h5 : σ.job = false → σ.FS 5 = [] := hI.nojob
  have hmk := hI.mk24
  first | refine wp_aload_n (pc := 192) dL_law_192 rfl ?_ | refine wp_aload_nN (pc := 192) dL_law_192 rfl ?_
  refine cv_LevelStoreLaw_23 (pc := 193) (wp_room (mc := 650) (ms := 11600) (by decide) (by decide) (s_sync hC hs)) rfl dL_law_193 (hC.fx.ok (by decide)) ⟨by decide, by decide, Nat.le_add_left _ _, Nat.le_add_left _ _⟩ (Nat.le_of_ble_eq_true rfl) (fun v h hp => ?_)
  obtain ⟨n1, S1, R1, I1, A1, P1, sp1, rfl, rfl, he1, hC1, hk1⟩ := hp.out
  have hX1 := hC1.fx
  have hM1 := hM.mono hk1
  have hS1 : (S1 2).2 = Ls := by rw [he1.2.1 2 (by have := hC.fx.1; omega)]; exact hS
  first | refine wp_aload_n (pc := 196) dL_law_196 rfl ?_ | refine wp_aload_nN (pc := 196) dL_law_196 rfl ?_
  refine cv_LevelStoreLaw_27 (pc := 197) (m_sync hX1 hM1 hs) rfl dL_law_197 (hX1.ok (by decide)) ⟨by decide, by decide, Nat.zero_le _, Nat.zero_le _⟩ (Nat.le_of_ble_eq_true rfl) (fun v h hp => ?_)
  obtain ⟨I2, SL2, rfl, rfl, hM2, hk2⟩ := hp.out
  refine wp_icmp_eq (pc := 200) (tgt := 682) dL_law_200 (by decide) (fun hc => ?_) (fun hc => ?_)
  · skip
    refine wp_room (by omega) (by omega) (hk n1 S1 R1 I2 ⟨(σ.sync).2, A1, P1, sp1, SL2, hI.sync ht, hC1.mono hk2, hM2, hS1, ?_⟩ _ ⟨rfl, rfl, rfl, rfl, trivial⟩)
    rw [hk2 2 (Or.inl (by decide)), hk1 2 (Or.inl rfl)]; exact hX2
  · exact absurd rfl hc
theorem law_crash {mc ms : Nat} {post : ab_Po} (hLI : LI Ls xs t n S R I) (ht : t + 1 ≤ 512) (hL5 : 5 * t + 5 ≤ Ls) (hLs : Ls ≤ 2560) (hk : ∀ n S R I, LI Ls xs (t + 1) n S R I → ∀ L, ab_sub L [(0, .ref 2), (1, .ref 3), (2, .ref 39), (3, .int (nI (5 * t)))] → wp 13 494 mc ms ML_law 682 L [] (n, S, R, I) post) (L : List (Nat × Value)) (hL : ab_sub L [(0, .ref 2), (1, .ref 3), (2, .ref 39), (3, .int (nI (5 * t)))]) : wp 13 494 (mc + 650) (ms + 11600) ML_law 205 L [] (n, S, R, I) post := by
  refine wp_loc hL ?_
  obtain ⟨σ, A, P, sp, SL, hI, hC, hM, hS, hX2⟩ := hLI
  have b := hI.1
  obtain ⟨hl, hs, hnt, ht5, hV⟩ := b.a
  have hn : σ.num ≤ 60000 := by omega
  have hP := b.plc
  have hnf : (σ.FS 5).length ≤ σ.nf := b.n.1
  have hkB := b.kb
  have hu := b.uq
  have hid := hI.idle
  have hmo := b.mok
  have hjd := hI.jd
  have hpo := hI.po
  have hwk := hI.wk
  have hok : ∀ k, k < 4 → ∀ F ∈ σ.FS k, FOK σ.B F := fun k hk F hF => (b.f k (Or.inl hk) F hF).1
  have hsr := b.srt
  have hdi := b.l
  have hlg := b.lg
  have hsE := b.srE
  have hmx : ∀ e ∈ allE σ, e.2.1.toInt ≤ σ.num := fun e he => (b.e e he).2
  have h5 : σ.job = false → σ.FS 5 = [] := hI.nojob
  have hmk := hI.mk24
  first | refine wp_aload_n (pc := 205) dL_law_205 rfl ?_ | refine wp_aload_nN (pc := 205) dL_law_205 rfl ?_
  first | refine wp_aload_n (pc := 206) dL_law_206 rfl ?_ | refine wp_aload_nN (pc := 206) dL_law_206 rfl ?_
  refine wp_iload_n (pc := 207) dL_law_207 rfl ?_
  refine wp_iconst (pc := 208) (v := 1) dL_law_208 (by decide) ?_
  refine wp_iadd (pc := 209) dL_law_209 ?_
  rw [(ofs (5 * t)).1]
  refine wp_saload (pc := 210) dL_law_210 (by rw [hS]; exact ofsI (by omega) hLs) ?_
  refine cv_LevelStoreLaw_28 (pc := 211) (wp_room (mc := 650) (ms := 11600) (by unfold pC; omega) (by unfold pS; omega) (s_crash hC hl hs hP hnf (I 2 (nI (5 * t + 1)).toNatClampNeg))) rfl dL_law_211 (hC.fx.ok (by decide)) ⟨by decide, by decide, Nat.le_add_left _ _, Nat.le_add_left _ _⟩ (Nat.le_of_ble_eq_true rfl) (fun v h hp => ?_)
  obtain ⟨n1, S1, R1, I1, A1, P1, sp1, rfl, rfl, he1, hC1, hk1⟩ := hp.out
  have hX1 := hC1.fx
  have hM1 := hM.mono hk1
  have hS1 : (S1 2).2 = Ls := by rw [he1.2.1 2 (by have := hC.fx.1; omega)]; exact hS
  first | refine wp_aload_n (pc := 214) dL_law_214 rfl ?_ | refine wp_aload_nN (pc := 214) dL_law_214 rfl ?_
  first | refine wp_aload_n (pc := 215) dL_law_215 rfl ?_ | refine wp_aload_nN (pc := 215) dL_law_215 rfl ?_
  refine wp_iload_n (pc := 216) dL_law_216 rfl ?_
  refine wp_iconst (pc := 217) (v := 1) dL_law_217 (by decide) ?_
  refine wp_iadd (pc := 218) dL_law_218 ?_
  rw [(ofs (5 * t)).1]
  refine wp_saload (pc := 219) dL_law_219 (by rw [hS1]; exact ofsI (by omega) hLs) ?_
  rw [hk1 2 (Or.inl rfl)]
  refine cv_LevelStoreLaw_31 (pc := 220) (m_crash hX1 hM1 hl hs h5 hnf (I 2 (nI (5 * t + 1)).toNatClampNeg)) rfl dL_law_220 (hX1.ok (by decide)) ⟨by decide, by decide, Nat.zero_le _, Nat.zero_le _⟩ (Nat.le_of_ble_eq_true rfl) (fun v h hp => ?_)
  obtain ⟨I2, SL2, rfl, rfl, hM2, hk2⟩ := hp.out
  refine wp_icmp_eq (pc := 223) (tgt := 682) dL_law_223 (by decide) (fun hc => ?_) (fun hc => ?_)
  · skip
    refine wp_room (by omega) (by omega) (hk n1 S1 R1 I2 ⟨(σ.crash (I 2 (nI (5 * t + 1)).toNatClampNeg)).2, A1, P1, sp1, SL2, hI.crash ht (I 2 (nI (5 * t + 1)).toNatClampNeg), hC1.mono hk2, hM2, hS1, ?_⟩ _ ⟨rfl, rfl, rfl, rfl, trivial⟩)
    rw [hk2 2 (Or.inl (by decide)), hk1 2 (Or.inl rfl)]; exact hX2
  · exact absurd rfl hc
theorem law_get {mc ms : Nat} {post : ab_Po} (hLI : LI Ls xs t n S R I) (ht : t + 1 ≤ 512) (hL5 : 5 * t + 5 ≤ Ls) (hLs : Ls ≤ 2560) (hk : ∀ n S R I, LI Ls xs (t + 1) n S R I → ∀ L, ab_sub L [(0, .ref 2), (1, .ref 3), (2, .ref 39), (3, .int (nI (5 * t)))] → wp 13 494 mc ms ML_law 682 L [] (n, S, R, I) post) (L : List (Nat × Value)) (hL : ab_sub L [(0, .ref 2), (1, .ref 3), (2, .ref 39), (3, .int (nI (5 * t)))]) : wp 13 494 (mc + 650) (ms + 11600) ML_law 228 L [] (n, S, R, I) post := by
  refine wp_loc hL ?_
  obtain ⟨σ, A, P, sp, SL, hI, hC, hM, hS, hX2⟩ := hLI
  have b := hI.1
  obtain ⟨hl, hs, hnt, ht5, hV⟩ := b.a
  have hn : σ.num ≤ 60000 := by omega
  have hP := b.plc
  have hnf : (σ.FS 5).length ≤ σ.nf := b.n.1
  have hkB := b.kb
  have hu := b.uq
  have hid := hI.idle
  have hmo := b.mok
  have hjd := hI.jd
  have hpo := hI.po
  have hwk := hI.wk
  have hok : ∀ k, k < 4 → ∀ F ∈ σ.FS k, FOK σ.B F := fun k hk F hF => (b.f k (Or.inl hk) F hF).1
  have hsr := b.srt
  have hdi := b.l
  have hlg := b.lg
  have hsE := b.srE
  have hmx : ∀ e ∈ allE σ, e.2.1.toInt ≤ σ.num := fun e he => (b.e e he).2
  have h5 : σ.job = false → σ.FS 5 = [] := hI.nojob
  have hmk := hI.mk24
  first | refine wp_aload_n (pc := 228) dL_law_228 rfl ?_ | refine wp_aload_nN (pc := 228) dL_law_228 rfl ?_
  first | refine wp_aload_n (pc := 229) dL_law_229 rfl ?_ | refine wp_aload_nN (pc := 229) dL_law_229 rfl ?_
  refine wp_iload_n (pc := 230) dL_law_230 rfl ?_
  refine wp_iconst (pc := 231) (v := 1) dL_law_231 (by decide) ?_
  refine wp_iadd (pc := 232) dL_law_232 ?_
  rw [(ofs (5 * t)).1]
  refine wp_saload (pc := 233) dL_law_233 (by rw [hS]; exact ofsI (by omega) hLs) ?_
  refine cv_LevelStoreLaw_32 (pc := 234) (wp_room (mc := 650) (ms := 11600) (by decide) (by decide) (s_get1 hC hl hn hkB hu (I 2 (nI (5 * t + 1)).toNatClampNeg))) rfl dL_law_234 (hC.fx.ok (by decide)) ⟨by decide, by decide, Nat.le_add_left _ _, Nat.le_add_left _ _⟩ (Nat.le_of_ble_eq_true rfl) (fun v h hp => ?_)
  obtain ⟨n1, S1, R1, I1, A1, P1, sp1, rfl, rfl, he1, hC1, hk1⟩ := hp.out
  have hX1 := hC1.fx
  have hM1 := hM.mono hk1
  have hS1 : (S1 2).2 = Ls := by rw [he1.2.1 2 (by have := hC.fx.1; omega)]; exact hS
  first | refine wp_aload_n (pc := 237) dL_law_237 rfl ?_ | refine wp_aload_nN (pc := 237) dL_law_237 rfl ?_
  first | refine wp_aload_n (pc := 238) dL_law_238 rfl ?_ | refine wp_aload_nN (pc := 238) dL_law_238 rfl ?_
  refine wp_iload_n (pc := 239) dL_law_239 rfl ?_
  refine wp_iconst (pc := 240) (v := 1) dL_law_240 (by decide) ?_
  refine wp_iadd (pc := 241) dL_law_241 ?_
  rw [(ofs (5 * t)).1]
  refine wp_saload (pc := 242) dL_law_242 (by rw [hS1]; exact ofsI (by omega) hLs) ?_
  rw [hk1 2 (Or.inl rfl)]
  refine cv_LevelStoreLaw_35 (pc := 243) (m_get hX1 hM1 hl hu hn hmx (I 2 (nI (5 * t + 1)).toNatClampNeg)) rfl dL_law_243 (hX1.ok (by decide)) ⟨by decide, by decide, Nat.zero_le _, Nat.zero_le _⟩ (Nat.le_of_ble_eq_true rfl) (fun v h hp => ?_)
  obtain ⟨I2, SL2, rfl, rfl, hM2, hk2⟩ := hp.out
  refine wp_icmp_eq (pc := 246) (tgt := 682) dL_law_246 (by decide) (fun hc => ?_) (fun hc => ?_)
  · skip
    refine wp_room (by omega) (by omega) (hk n1 S1 R1 I2 ⟨(σ.get (I 2 (nI (5 * t + 1)).toNatClampNeg)).2, A1, P1, sp1, SL2, (by rw [get_2]; exact hI.up ht), hC1.mono hk2, hM2, hS1, ?_⟩ _ ⟨rfl, rfl, rfl, rfl, trivial⟩)
    rw [hk2 2 (Or.inl (by decide)), hk1 2 (Or.inl rfl)]; exact hX2
  · exact absurd rfl hc
theorem law_view {mc ms : Nat} {post : ab_Po} (hLI : LI Ls xs t n S R I) (ht : t + 1 ≤ 512) (hL5 : 5 * t + 5 ≤ Ls) (hLs : Ls ≤ 2560) (hk : ∀ n S R I, LI Ls xs (t + 1) n S R I → ∀ L, ab_sub L [(0, .ref 2), (1, .ref 3), (2, .ref 39), (3, .int (nI (5 * t)))] → wp 13 494 mc ms ML_law 682 L [] (n, S, R, I) post) (L : List (Nat × Value)) (hL : ab_sub L [(0, .ref 2), (1, .ref 3), (2, .ref 39), (3, .int (nI (5 * t)))]) : wp 13 494 (mc + 650) (ms + 11600) ML_law 251 L [] (n, S, R, I) post := by
  refine wp_loc hL ?_
  obtain ⟨σ, A, P, sp, SL, hI, hC, hM, hS, hX2⟩ := hLI
  have b := hI.1
  obtain ⟨hl, hs, hnt, ht5, hV⟩ := b.a
  have hn : σ.num ≤ 60000 := by omega
  have hP := b.plc
  have hnf : (σ.FS 5).length ≤ σ.nf := b.n.1
  have hkB := b.kb
  have hu := b.uq
  have hid := hI.idle
  have hmo := b.mok
  have hjd := hI.jd
  have hpo := hI.po
  have hwk := hI.wk
  have hok : ∀ k, k < 4 → ∀ F ∈ σ.FS k, FOK σ.B F := fun k hk F hF => (b.f k (Or.inl hk) F hF).1
  have hsr := b.srt
  have hdi := b.l
  have hlg := b.lg
  have hsE := b.srE
  have hmx : ∀ e ∈ allE σ, e.2.1.toInt ≤ σ.num := fun e he => (b.e e he).2
  have h5 : σ.job = false → σ.FS 5 = [] := hI.nojob
  have hmk := hI.mk24
  first | refine wp_aload_n (pc := 251) dL_law_251 rfl ?_ | refine wp_aload_nN (pc := 251) dL_law_251 rfl ?_
  first | refine wp_aload_n (pc := 252) dL_law_252 rfl ?_ | refine wp_aload_nN (pc := 252) dL_law_252 rfl ?_
  refine wp_iload_n (pc := 253) dL_law_253 rfl ?_
  refine wp_iconst (pc := 254) (v := 1) dL_law_254 (by decide) ?_
  refine wp_iadd (pc := 255) dL_law_255 ?_
  rw [(ofs (5 * t)).1]
  refine wp_saload (pc := 256) dL_law_256 (by rw [hS]; exact ofsI (by omega) hLs) ?_
  first | refine wp_aload_n (pc := 257) dL_law_257 rfl ?_ | refine wp_aload_nN (pc := 257) dL_law_257 rfl ?_
  refine wp_iload_n (pc := 258) dL_law_258 rfl ?_
  refine wp_iconst (pc := 259) (v := 2) dL_law_259 (by decide) ?_
  refine wp_iadd (pc := 260) dL_law_260 ?_
  rw [(ofs (5 * t)).2.1]
  refine wp_saload (pc := 261) dL_law_261 (by rw [hS]; exact ofsI (by omega) hLs) ?_
  refine cv_LevelStoreLaw_36 (pc := 262) (wp_room (mc := 650) (ms := 11600) (by decide) (by decide) (s_view hC hl hkB hu (I 2 (nI (5 * t + 1)).toNatClampNeg) (I 2 (nI (5 * t + 2)).toNatClampNeg))) rfl dL_law_262 (hC.fx.ok (by decide)) ⟨by decide, by decide, Nat.le_add_left _ _, Nat.le_add_left _ _⟩ (Nat.le_of_ble_eq_true rfl) (fun v h hp => ?_)
  obtain ⟨n1, S1, R1, I1, A1, P1, sp1, rfl, rfl, he1, hC1, hk1⟩ := hp.out
  have hX1 := hC1.fx
  have hM1 := hM.mono hk1
  have hS1 : (S1 2).2 = Ls := by rw [he1.2.1 2 (by have := hC.fx.1; omega)]; exact hS
  first | refine wp_aload_n (pc := 265) dL_law_265 rfl ?_ | refine wp_aload_nN (pc := 265) dL_law_265 rfl ?_
  first | refine wp_aload_n (pc := 266) dL_law_266 rfl ?_ | refine wp_aload_nN (pc := 266) dL_law_266 rfl ?_
  refine wp_iload_n (pc := 267) dL_law_267 rfl ?_
  refine wp_iconst (pc := 268) (v := 1) dL_law_268 (by decide) ?_
  refine wp_iadd (pc := 269) dL_law_269 ?_
  rw [(ofs (5 * t)).1]
  refine wp_saload (pc := 270) dL_law_270 (by rw [hS1]; exact ofsI (by omega) hLs) ?_
  rw [hk1 2 (Or.inl rfl)]
  first | refine wp_aload_n (pc := 271) dL_law_271 rfl ?_ | refine wp_aload_nN (pc := 271) dL_law_271 rfl ?_
  refine wp_iload_n (pc := 272) dL_law_272 rfl ?_
  refine wp_iconst (pc := 273) (v := 2) dL_law_273 (by decide) ?_
  refine wp_iadd (pc := 274) dL_law_274 ?_
  rw [(ofs (5 * t)).2.1]
  refine wp_saload (pc := 275) dL_law_275 (by rw [hS1]; exact ofsI (by omega) hLs) ?_
  rw [hk1 2 (Or.inl rfl)]
  refine cv_LevelStoreLaw_39 (pc := 276) (m_view hX1 hM1 hl hu hV (I 2 (nI (5 * t + 1)).toNatClampNeg) (I 2 (nI (5 * t + 2)).toNatClampNeg)) rfl dL_law_276 (hX1.ok (by decide)) ⟨by decide, by decide, Nat.zero_le _, Nat.zero_le _⟩ (Nat.le_of_ble_eq_true rfl) (fun v h hp => ?_)
  obtain ⟨I2, SL2, rfl, rfl, hM2, hk2⟩ := hp.out
  refine wp_icmp_eq (pc := 279) (tgt := 682) dL_law_279 (by decide) (fun hc => ?_) (fun hc => ?_)
  · skip
    refine wp_room (by omega) (by omega) (hk n1 S1 R1 I2 ⟨(σ.view (I 2 (nI (5 * t + 1)).toNatClampNeg) (I 2 (nI (5 * t + 2)).toNatClampNeg)).2, A1, P1, sp1, SL2, (by rw [view_2]; exact hI.up ht), hC1.mono hk2, hM2, hS1, ?_⟩ _ ⟨rfl, rfl, rfl, rfl, trivial⟩)
    rw [hk2 2 (Or.inl (by decide)), hk1 2 (Or.inl rfl)]; exact hX2
  · exact absurd rfl hc
theorem law_next {mc ms : Nat} {post : ab_Po} (hLI : LI Ls xs t n S R I) (ht : t + 1 ≤ 512) (hL5 : 5 * t + 5 ≤ Ls) (hLs : Ls ≤ 2560) (hk : ∀ n S R I, LI Ls xs (t + 1) n S R I → ∀ L, ab_sub L [(0, .ref 2), (1, .ref 3), (2, .ref 39), (3, .int (nI (5 * t)))] → wp 13 494 mc ms ML_law 682 L [] (n, S, R, I) post) (L : List (Nat × Value)) (hL : ab_sub L [(0, .ref 2), (1, .ref 3), (2, .ref 39), (3, .int (nI (5 * t)))]) : wp 13 494 (mc + 650) (ms + 11600) ML_law 284 L [] (n, S, R, I) post := by
  refine wp_loc hL ?_
  obtain ⟨σ, A, P, sp, SL, hI, hC, hM, hS, hX2⟩ := hLI
  have b := hI.1
  obtain ⟨hl, hs, hnt, ht5, hV⟩ := b.a
  have hn : σ.num ≤ 60000 := by omega
  have hP := b.plc
  have hnf : (σ.FS 5).length ≤ σ.nf := b.n.1
  have hkB := b.kb
  have hu := b.uq
  have hid := hI.idle
  have hmo := b.mok
  have hjd := hI.jd
  have hpo := hI.po
  have hwk := hI.wk
  have hok : ∀ k, k < 4 → ∀ F ∈ σ.FS k, FOK σ.B F := fun k hk F hF => (b.f k (Or.inl hk) F hF).1
  have hsr := b.srt
  have hdi := b.l
  have hlg := b.lg
  have hsE := b.srE
  have hmx : ∀ e ∈ allE σ, e.2.1.toInt ≤ σ.num := fun e he => (b.e e he).2
  have h5 : σ.job = false → σ.FS 5 = [] := hI.nojob
  have hmk := hI.mk24
  first | refine wp_aload_n (pc := 284) dL_law_284 rfl ?_ | refine wp_aload_nN (pc := 284) dL_law_284 rfl ?_
  first | refine wp_aload_n (pc := 285) dL_law_285 rfl ?_ | refine wp_aload_nN (pc := 285) dL_law_285 rfl ?_
  refine wp_iload_n (pc := 286) dL_law_286 rfl ?_
  refine wp_iconst (pc := 287) (v := 1) dL_law_287 (by decide) ?_
  refine wp_iadd (pc := 288) dL_law_288 ?_
  rw [(ofs (5 * t)).1]
  refine wp_saload (pc := 289) dL_law_289 (by rw [hS]; exact ofsI (by omega) hLs) ?_
  first | refine wp_aload_n (pc := 290) dL_law_290 rfl ?_ | refine wp_aload_nN (pc := 290) dL_law_290 rfl ?_
  refine wp_iload_n (pc := 291) dL_law_291 rfl ?_
  refine wp_iconst (pc := 292) (v := 2) dL_law_292 (by decide) ?_
  refine wp_iadd (pc := 293) dL_law_293 ?_
  rw [(ofs (5 * t)).2.1]
  refine wp_saload (pc := 294) dL_law_294 (by rw [hS]; exact ofsI (by omega) hLs) ?_
  refine cv_LevelStoreLaw_40 (pc := 295) (wp_room (mc := 650) (ms := 11600) (by decide) (by decide) (s_next hC hl hn hkB hu (I 2 (nI (5 * t + 1)).toNatClampNeg) (I 2 (nI (5 * t + 2)).toNatClampNeg))) rfl dL_law_295 (hC.fx.ok (by decide)) ⟨by decide, by decide, Nat.le_add_left _ _, Nat.le_add_left _ _⟩ (Nat.le_of_ble_eq_true rfl) (fun v h hp => ?_)
  obtain ⟨n1, S1, R1, I1, A1, P1, sp1, rfl, rfl, he1, hC1, hk1⟩ := hp.out
  have hX1 := hC1.fx
  have hM1 := hM.mono hk1
  have hS1 : (S1 2).2 = Ls := by rw [he1.2.1 2 (by have := hC.fx.1; omega)]; exact hS
  first | refine wp_aload_n (pc := 298) dL_law_298 rfl ?_ | refine wp_aload_nN (pc := 298) dL_law_298 rfl ?_
  first | refine wp_aload_n (pc := 299) dL_law_299 rfl ?_ | refine wp_aload_nN (pc := 299) dL_law_299 rfl ?_
  refine wp_iload_n (pc := 300) dL_law_300 rfl ?_
  refine wp_iconst (pc := 301) (v := 1) dL_law_301 (by decide) ?_
  refine wp_iadd (pc := 302) dL_law_302 ?_
  rw [(ofs (5 * t)).1]
  refine wp_saload (pc := 303) dL_law_303 (by rw [hS1]; exact ofsI (by omega) hLs) ?_
  rw [hk1 2 (Or.inl rfl)]
  first | refine wp_aload_n (pc := 304) dL_law_304 rfl ?_ | refine wp_aload_nN (pc := 304) dL_law_304 rfl ?_
  refine wp_iload_n (pc := 305) dL_law_305 rfl ?_
  refine wp_iconst (pc := 306) (v := 2) dL_law_306 (by decide) ?_
  refine wp_iadd (pc := 307) dL_law_307 ?_
  rw [(ofs (5 * t)).2.1]
  refine wp_saload (pc := 308) dL_law_308 (by rw [hS1]; exact ofsI (by omega) hLs) ?_
  rw [hk1 2 (Or.inl rfl)]
  refine cv_LevelStoreLaw_43 (pc := 309) (m_next hX1 hM1 hl hu hn hmx hV (I 2 (nI (5 * t + 1)).toNatClampNeg) (I 2 (nI (5 * t + 2)).toNatClampNeg)) rfl dL_law_309 (hX1.ok (by decide)) ⟨by decide, by decide, Nat.zero_le _, Nat.zero_le _⟩ (Nat.le_of_ble_eq_true rfl) (fun v h hp => ?_)
  obtain ⟨I2, SL2, rfl, rfl, hM2, hk2⟩ := hp.out
  refine wp_icmp_eq (pc := 312) (tgt := 682) dL_law_312 (by decide) (fun hc => ?_) (fun hc => ?_)
  · skip
    refine wp_room (by omega) (by omega) (hk n1 S1 R1 I2 ⟨(σ.next (I 2 (nI (5 * t + 1)).toNatClampNeg) (I 2 (nI (5 * t + 2)).toNatClampNeg)).2, A1, P1, sp1, SL2, (by rw [next_2]; exact hI.up ht), hC1.mono hk2, hM2, hS1, ?_⟩ _ ⟨rfl, rfl, rfl, rfl, trivial⟩)
    rw [hk2 2 (Or.inl (by decide)), hk1 2 (Or.inl rfl)]; exact hX2
  · exact absurd rfl hc
theorem law_hold {mc ms : Nat} {post : ab_Po} (hLI : LI Ls xs t n S R I) (ht : t + 1 ≤ 512) (hL5 : 5 * t + 5 ≤ Ls) (hLs : Ls ≤ 2560) (hk : ∀ n S R I, LI Ls xs (t + 1) n S R I → ∀ L, ab_sub L [(0, .ref 2), (1, .ref 3), (2, .ref 39), (3, .int (nI (5 * t)))] → wp 13 494 mc ms ML_law 682 L [] (n, S, R, I) post) (L : List (Nat × Value)) (hL : ab_sub L [(0, .ref 2), (1, .ref 3), (2, .ref 39), (3, .int (nI (5 * t)))]) : wp 13 494 (mc + 650) (ms + 11600) ML_law 317 L [] (n, S, R, I) post := by
  refine wp_loc hL ?_
  obtain ⟨σ, A, P, sp, SL, hI, hC, hM, hS, hX2⟩ := hLI
  have b := hI.1
  obtain ⟨hl, hs, hnt, ht5, hV⟩ := b.a
  have hn : σ.num ≤ 60000 := by omega
  have hP := b.plc
  have hnf : (σ.FS 5).length ≤ σ.nf := b.n.1
  have hkB := b.kb
  have hu := b.uq
  have hid := hI.idle
  have hmo := b.mok
  have hjd := hI.jd
  have hpo := hI.po
  have hwk := hI.wk
  have hok : ∀ k, k < 4 → ∀ F ∈ σ.FS k, FOK σ.B F := fun k hk F hF => (b.f k (Or.inl hk) F hF).1
  have hsr := b.srt
  have hdi := b.l
  have hlg := b.lg
  have hsE := b.srE
  have hmx : ∀ e ∈ allE σ, e.2.1.toInt ≤ σ.num := fun e he => (b.e e he).2
  have h5 : σ.job = false → σ.FS 5 = [] := hI.nojob
  have hmk := hI.mk24
  first | refine wp_aload_n (pc := 317) dL_law_317 rfl ?_ | refine wp_aload_nN (pc := 317) dL_law_317 rfl ?_
  first | refine wp_aload_n (pc := 318) dL_law_318 rfl ?_ | refine wp_aload_nN (pc := 318) dL_law_318 rfl ?_
  refine wp_iload_n (pc := 319) dL_law_319 rfl ?_
  refine wp_iconst (pc := 320) (v := 1) dL_law_320 (by decide) ?_
  refine wp_iadd (pc := 321) dL_law_321 ?_
  rw [(ofs (5 * t)).1]
  refine wp_saload (pc := 322) dL_law_322 (by rw [hS]; exact ofsI (by omega) hLs) ?_
  refine cv_LevelStoreLaw_44 (pc := 323) (wp_room (mc := 650) (ms := 11600) (by decide) (by decide) (s_hold hC (I 2 (nI (5 * t + 1)).toNatClampNeg))) rfl dL_law_323 (hC.fx.ok (by decide)) ⟨by decide, by decide, Nat.le_add_left _ _, Nat.le_add_left _ _⟩ (Nat.le_of_ble_eq_true rfl) (fun v h hp => ?_)
  obtain ⟨n1, S1, R1, I1, A1, P1, sp1, rfl, rfl, he1, hC1, hk1⟩ := hp.out
  have hX1 := hC1.fx
  have hM1 := hM.mono hk1
  have hS1 : (S1 2).2 = Ls := by rw [he1.2.1 2 (by have := hC.fx.1; omega)]; exact hS
  first | refine wp_aload_n (pc := 326) dL_law_326 rfl ?_ | refine wp_aload_nN (pc := 326) dL_law_326 rfl ?_
  first | refine wp_aload_n (pc := 327) dL_law_327 rfl ?_ | refine wp_aload_nN (pc := 327) dL_law_327 rfl ?_
  refine wp_iload_n (pc := 328) dL_law_328 rfl ?_
  refine wp_iconst (pc := 329) (v := 1) dL_law_329 (by decide) ?_
  refine wp_iadd (pc := 330) dL_law_330 ?_
  rw [(ofs (5 * t)).1]
  refine wp_saload (pc := 331) dL_law_331 (by rw [hS1]; exact ofsI (by omega) hLs) ?_
  rw [hk1 2 (Or.inl rfl)]
  refine cv_LevelStoreLaw_47 (pc := 332) (m_hold hX1 hM1 hV (I 2 (nI (5 * t + 1)).toNatClampNeg)) rfl dL_law_332 (hX1.ok (by decide)) ⟨by decide, by decide, Nat.zero_le _, Nat.zero_le _⟩ (Nat.le_of_ble_eq_true rfl) (fun v h hp => ?_)
  obtain ⟨I2, SL2, rfl, rfl, hM2, hk2⟩ := hp.out
  refine wp_icmp_eq (pc := 335) (tgt := 682) dL_law_335 (by decide) (fun hc => ?_) (fun hc => ?_)
  · skip
    refine wp_room (by omega) (by omega) (hk n1 S1 R1 I2 ⟨(σ.hold (I 2 (nI (5 * t + 1)).toNatClampNeg)).2, A1, P1, sp1, SL2, hI.hold ht (I 2 (nI (5 * t + 1)).toNatClampNeg), hC1.mono hk2, hM2, hS1, ?_⟩ _ ⟨rfl, rfl, rfl, rfl, trivial⟩)
    rw [hk2 2 (Or.inl (by decide)), hk1 2 (Or.inl rfl)]; exact hX2
  · exact absurd rfl hc
theorem law_release {mc ms : Nat} {post : ab_Po} (hLI : LI Ls xs t n S R I) (ht : t + 1 ≤ 512) (hL5 : 5 * t + 5 ≤ Ls) (hLs : Ls ≤ 2560) (hk : ∀ n S R I, LI Ls xs (t + 1) n S R I → ∀ L, ab_sub L [(0, .ref 2), (1, .ref 3), (2, .ref 39), (3, .int (nI (5 * t)))] → wp 13 494 mc ms ML_law 682 L [] (n, S, R, I) post) (L : List (Nat × Value)) (hL : ab_sub L [(0, .ref 2), (1, .ref 3), (2, .ref 39), (3, .int (nI (5 * t)))]) : wp 13 494 (mc + 650) (ms + 11600) ML_law 340 L [] (n, S, R, I) post := by
  refine wp_loc hL ?_
  obtain ⟨σ, A, P, sp, SL, hI, hC, hM, hS, hX2⟩ := hLI
  have b := hI.1
  obtain ⟨hl, hs, hnt, ht5, hV⟩ := b.a
  have hn : σ.num ≤ 60000 := by omega
  have hP := b.plc
  have hnf : (σ.FS 5).length ≤ σ.nf := b.n.1
  have hkB := b.kb
  have hu := b.uq
  have hid := hI.idle
  have hmo := b.mok
  have hjd := hI.jd
  have hpo := hI.po
  have hwk := hI.wk
  have hok : ∀ k, k < 4 → ∀ F ∈ σ.FS k, FOK σ.B F := fun k hk F hF => (b.f k (Or.inl hk) F hF).1
  have hsr := b.srt
  have hdi := b.l
  have hlg := b.lg
  have hsE := b.srE
  have hmx : ∀ e ∈ allE σ, e.2.1.toInt ≤ σ.num := fun e he => (b.e e he).2
  have h5 : σ.job = false → σ.FS 5 = [] := hI.nojob
  have hmk := hI.mk24
  first | refine wp_aload_n (pc := 340) dL_law_340 rfl ?_ | refine wp_aload_nN (pc := 340) dL_law_340 rfl ?_
  first | refine wp_aload_n (pc := 341) dL_law_341 rfl ?_ | refine wp_aload_nN (pc := 341) dL_law_341 rfl ?_
  refine wp_iload_n (pc := 342) dL_law_342 rfl ?_
  refine wp_iconst (pc := 343) (v := 1) dL_law_343 (by decide) ?_
  refine wp_iadd (pc := 344) dL_law_344 ?_
  rw [(ofs (5 * t)).1]
  refine wp_saload (pc := 345) dL_law_345 (by rw [hS]; exact ofsI (by omega) hLs) ?_
  refine cv_LevelStoreLaw_48 (pc := 346) (wp_room (mc := 650) (ms := 11600) (by decide) (by decide) (s_release hC (I 2 (nI (5 * t + 1)).toNatClampNeg))) rfl dL_law_346 (hC.fx.ok (by decide)) ⟨by decide, by decide, Nat.le_add_left _ _, Nat.le_add_left _ _⟩ (Nat.le_of_ble_eq_true rfl) (fun v h hp => ?_)
  obtain ⟨n1, S1, R1, I1, A1, P1, sp1, rfl, rfl, he1, hC1, hk1⟩ := hp.out
  have hX1 := hC1.fx
  have hM1 := hM.mono hk1
  have hS1 : (S1 2).2 = Ls := by rw [he1.2.1 2 (by have := hC.fx.1; omega)]; exact hS
  first | refine wp_aload_n (pc := 349) dL_law_349 rfl ?_ | refine wp_aload_nN (pc := 349) dL_law_349 rfl ?_
  first | refine wp_aload_n (pc := 350) dL_law_350 rfl ?_ | refine wp_aload_nN (pc := 350) dL_law_350 rfl ?_
  refine wp_iload_n (pc := 351) dL_law_351 rfl ?_
  refine wp_iconst (pc := 352) (v := 1) dL_law_352 (by decide) ?_
  refine wp_iadd (pc := 353) dL_law_353 ?_
  rw [(ofs (5 * t)).1]
  refine wp_saload (pc := 354) dL_law_354 (by rw [hS1]; exact ofsI (by omega) hLs) ?_
  rw [hk1 2 (Or.inl rfl)]
  refine cv_LevelStoreLaw_51 (pc := 355) (m_release hX1 hM1 hV (I 2 (nI (5 * t + 1)).toNatClampNeg)) rfl dL_law_355 (hX1.ok (by decide)) ⟨by decide, by decide, Nat.zero_le _, Nat.zero_le _⟩ (Nat.le_of_ble_eq_true rfl) (fun v h hp => ?_)
  obtain ⟨I2, SL2, rfl, rfl, hM2, hk2⟩ := hp.out
  refine wp_icmp_eq (pc := 358) (tgt := 682) dL_law_358 (by decide) (fun hc => ?_) (fun hc => ?_)
  · skip
    refine wp_room (by omega) (by omega) (hk n1 S1 R1 I2 ⟨(σ.release (I 2 (nI (5 * t + 1)).toNatClampNeg)).2, A1, P1, sp1, SL2, hI.release ht (I 2 (nI (5 * t + 1)).toNatClampNeg), hC1.mono hk2, hM2, hS1, ?_⟩ _ ⟨rfl, rfl, rfl, rfl, trivial⟩)
    rw [hk2 2 (Or.inl (by decide)), hk1 2 (Or.inl rfl)]; exact hX2
  · exact absurd rfl hc
theorem law_flush {mc ms : Nat} {post : ab_Po} (hLI : LI Ls xs t n S R I) (ht : t + 1 ≤ 512) (hL5 : 5 * t + 5 ≤ Ls) (hLs : Ls ≤ 2560) (hk : ∀ n S R I, LI Ls xs (t + 1) n S R I → ∀ L, ab_sub L [(0, .ref 2), (1, .ref 3), (2, .ref 39), (3, .int (nI (5 * t)))] → wp 13 494 mc ms ML_law 682 L [] (n, S, R, I) post) (L : List (Nat × Value)) (hL : ab_sub L [(0, .ref 2), (1, .ref 3), (2, .ref 39), (3, .int (nI (5 * t)))]) : wp 13 494 (mc + 650) (ms + 11600) ML_law 363 L [] (n, S, R, I) post := by
  refine wp_loc hL ?_
  obtain ⟨σ, A, P, sp, SL, hI, hC, hM, hS, hX2⟩ := hLI
  have b := hI.1
  obtain ⟨hl, hs, hnt, ht5, hV⟩ := b.a
  have hn : σ.num ≤ 60000 := by omega
  have hP := b.plc
  have hnf : (σ.FS 5).length ≤ σ.nf := b.n.1
  have hkB := b.kb
  have hu := b.uq
  have hid := hI.idle
  have hmo := b.mok
  have hjd := hI.jd
  have hpo := hI.po
  have hwk := hI.wk
  have hok : ∀ k, k < 4 → ∀ F ∈ σ.FS k, FOK σ.B F := fun k hk F hF => (b.f k (Or.inl hk) F hF).1
  have hsr := b.srt
  have hdi := b.l
  have hlg := b.lg
  have hsE := b.srE
  have hmx : ∀ e ∈ allE σ, e.2.1.toInt ≤ σ.num := fun e he => (b.e e he).2
  have h5 : σ.job = false → σ.FS 5 = [] := hI.nojob
  have hmk := hI.mk24
  first | refine wp_aload_n (pc := 363) dL_law_363 rfl ?_ | refine wp_aload_nN (pc := 363) dL_law_363 rfl ?_
  refine cv_LevelStoreLaw_52 (pc := 364) (wp_room (mc := 650) (ms := 11600) (by decide) (by decide) (s_flush hC hid hl)) rfl dL_law_364 (hC.fx.ok (by decide)) ⟨by decide, by decide, Nat.le_add_left _ _, Nat.le_add_left _ _⟩ (Nat.le_of_ble_eq_true rfl) (fun v h hp => ?_)
  obtain ⟨n1, S1, R1, I1, A1, P1, sp1, rfl, rfl, he1, hC1, hk1⟩ := hp.out
  have hX1 := hC1.fx
  have hM1 := hM.mono hk1
  have hS1 : (S1 2).2 = Ls := by rw [he1.2.1 2 (by have := hC.fx.1; omega)]; exact hS
  first | refine wp_aload_n (pc := 367) dL_law_367 rfl ?_ | refine wp_aload_nN (pc := 367) dL_law_367 rfl ?_
  refine cv_LevelStoreLaw_55 (pc := 368) (m_flush hX1 hM1 h5 hl) rfl dL_law_368 (hX1.ok (by decide)) ⟨by decide, by decide, Nat.zero_le _, Nat.zero_le _⟩ (Nat.le_of_ble_eq_true rfl) (fun v h hp => ?_)
  obtain ⟨I2, SL2, rfl, rfl, hM2, hk2⟩ := hp.out
  refine wp_icmp_eq (pc := 371) (tgt := 682) dL_law_371 (by decide) (fun hc => ?_) (fun hc => ?_)
  · skip
    refine wp_room (by omega) (by omega) (hk n1 S1 R1 I2 ⟨(σ.flush).2, A1, P1, sp1, SL2, hI.flush ht, hC1.mono hk2, hM2, hS1, ?_⟩ _ ⟨rfl, rfl, rfl, rfl, trivial⟩)
    rw [hk2 2 (Or.inl (by decide)), hk1 2 (Or.inl rfl)]; exact hX2
  · exact absurd rfl hc
theorem law_merge {mc ms : Nat} {post : ab_Po} (hLI : LI Ls xs t n S R I) (ht : t + 1 ≤ 512) (hL5 : 5 * t + 5 ≤ Ls) (hLs : Ls ≤ 2560) (hk : ∀ n S R I, LI Ls xs (t + 1) n S R I → ∀ L, ab_sub L [(0, .ref 2), (1, .ref 3), (2, .ref 39), (3, .int (nI (5 * t)))] → wp 13 494 mc ms ML_law 682 L [] (n, S, R, I) post) (L : List (Nat × Value)) (hL : ab_sub L [(0, .ref 2), (1, .ref 3), (2, .ref 39), (3, .int (nI (5 * t)))]) : wp 13 494 (mc + 650) (ms + 11600) ML_law 376 L [] (n, S, R, I) post := by
  refine wp_loc hL ?_
  obtain ⟨σ, A, P, sp, SL, hI, hC, hM, hS, hX2⟩ := hLI
  have b := hI.1
  obtain ⟨hl, hs, hnt, ht5, hV⟩ := b.a
  have hn : σ.num ≤ 60000 := by omega
  have hP := b.plc
  have hnf : (σ.FS 5).length ≤ σ.nf := b.n.1
  have hkB := b.kb
  have hu := b.uq
  have hid := hI.idle
  have hmo := b.mok
  have hjd := hI.jd
  have hpo := hI.po
  have hwk := hI.wk
  have hok : ∀ k, k < 4 → ∀ F ∈ σ.FS k, FOK σ.B F := fun k hk F hF => (b.f k (Or.inl hk) F hF).1
  have hsr := b.srt
  have hdi := b.l
  have hlg := b.lg
  have hsE := b.srE
  have hmx : ∀ e ∈ allE σ, e.2.1.toInt ≤ σ.num := fun e he => (b.e e he).2
  have h5 : σ.job = false → σ.FS 5 = [] := hI.nojob
  have hmk := hI.mk24
  first | refine wp_aload_n (pc := 376) dL_law_376 rfl ?_ | refine wp_aload_nN (pc := 376) dL_law_376 rfl ?_
  first | refine wp_aload_n (pc := 377) dL_law_377 rfl ?_ | refine wp_aload_nN (pc := 377) dL_law_377 rfl ?_
  refine wp_iload_n (pc := 378) dL_law_378 rfl ?_
  refine wp_iconst (pc := 379) (v := 1) dL_law_379 (by decide) ?_
  refine wp_iadd (pc := 380) dL_law_380 ?_
  rw [(ofs (5 * t)).1]
  refine wp_saload (pc := 381) dL_law_381 (by rw [hS]; exact ofsI (by omega) hLs) ?_
  first | refine wp_aload_n (pc := 382) dL_law_382 rfl ?_ | refine wp_aload_nN (pc := 382) dL_law_382 rfl ?_
  refine wp_iload_n (pc := 383) dL_law_383 rfl ?_
  refine wp_iconst (pc := 384) (v := 2) dL_law_384 (by decide) ?_
  refine wp_iadd (pc := 385) dL_law_385 ?_
  rw [(ofs (5 * t)).2.1]
  refine wp_saload (pc := 386) dL_law_386 (by rw [hS]; exact ofsI (by omega) hLs) ?_
  refine cv_LevelStoreLaw_56 (pc := 387) (wp_room (mc := 650) (ms := 11600) (by decide) (by decide) (s_merge hC hid hmo (I 2 (nI (5 * t + 1)).toNatClampNeg) (I 2 (nI (5 * t + 2)).toNatClampNeg))) rfl dL_law_387 (hC.fx.ok (by decide)) ⟨by decide, by decide, Nat.le_add_left _ _, Nat.le_add_left _ _⟩ (Nat.le_of_ble_eq_true rfl) (fun v h hp => ?_)
  obtain ⟨n1, S1, R1, I1, A1, P1, sp1, rfl, rfl, he1, hC1, hk1⟩ := hp.out
  have hX1 := hC1.fx
  have hM1 := hM.mono hk1
  have hS1 : (S1 2).2 = Ls := by rw [he1.2.1 2 (by have := hC.fx.1; omega)]; exact hS
  first | refine wp_aload_n (pc := 390) dL_law_390 rfl ?_ | refine wp_aload_nN (pc := 390) dL_law_390 rfl ?_
  first | refine wp_aload_n (pc := 391) dL_law_391 rfl ?_ | refine wp_aload_nN (pc := 391) dL_law_391 rfl ?_
  refine wp_iload_n (pc := 392) dL_law_392 rfl ?_
  refine wp_iconst (pc := 393) (v := 1) dL_law_393 (by decide) ?_
  refine wp_iadd (pc := 394) dL_law_394 ?_
  rw [(ofs (5 * t)).1]
  refine wp_saload (pc := 395) dL_law_395 (by rw [hS1]; exact ofsI (by omega) hLs) ?_
  rw [hk1 2 (Or.inl rfl)]
  first | refine wp_aload_n (pc := 396) dL_law_396 rfl ?_ | refine wp_aload_nN (pc := 396) dL_law_396 rfl ?_
  refine wp_iload_n (pc := 397) dL_law_397 rfl ?_
  refine wp_iconst (pc := 398) (v := 2) dL_law_398 (by decide) ?_
  refine wp_iadd (pc := 399) dL_law_399 ?_
  rw [(ofs (5 * t)).2.1]
  refine wp_saload (pc := 400) dL_law_400 (by rw [hS1]; exact ofsI (by omega) hLs) ?_
  rw [hk1 2 (Or.inl rfl)]
  refine cv_LevelStoreLaw_59 (pc := 401) (m_merge hX1 hM1 h5 hsr hdi hlg hsE hu hmo (I 2 (nI (5 * t + 1)).toNatClampNeg) (I 2 (nI (5 * t + 2)).toNatClampNeg)) rfl dL_law_401 (hX1.ok (by decide)) ⟨by decide, by decide, Nat.zero_le _, Nat.zero_le _⟩ (Nat.le_of_ble_eq_true rfl) (fun v h hp => ?_)
  obtain ⟨I2, SL2, rfl, rfl, hM2, hk2⟩ := hp.out
  refine wp_icmp_eq (pc := 404) (tgt := 682) dL_law_404 (by decide) (fun hc => ?_) (fun hc => ?_)
  · skip
    refine wp_room (by omega) (by omega) (hk n1 S1 R1 I2 ⟨(σ.merge (I 2 (nI (5 * t + 1)).toNatClampNeg) (I 2 (nI (5 * t + 2)).toNatClampNeg)).2, A1, P1, sp1, SL2, hI.merge ht (I 2 (nI (5 * t + 1)).toNatClampNeg) (I 2 (nI (5 * t + 2)).toNatClampNeg), hC1.mono hk2, hM2, hS1, ?_⟩ _ ⟨rfl, rfl, rfl, rfl, trivial⟩)
    rw [hk2 2 (Or.inl (by decide)), hk1 2 (Or.inl rfl)]; exact hX2
  · exact absurd rfl hc
theorem law_work {mc ms : Nat} {post : ab_Po} (hLI : LI Ls xs t n S R I) (ht : t + 1 ≤ 512) (hL5 : 5 * t + 5 ≤ Ls) (hLs : Ls ≤ 2560) (hk : ∀ n S R I, LI Ls xs (t + 1) n S R I → ∀ L, ab_sub L [(0, .ref 2), (1, .ref 3), (2, .ref 39), (3, .int (nI (5 * t)))] → wp 13 494 mc ms ML_law 682 L [] (n, S, R, I) post) (L : List (Nat × Value)) (hL : ab_sub L [(0, .ref 2), (1, .ref 3), (2, .ref 39), (3, .int (nI (5 * t)))]) : wp 13 494 (mc + 650) (ms + 11600) ML_law 409 L [] (n, S, R, I) post := by
  refine wp_loc hL ?_
  obtain ⟨σ, A, P, sp, SL, hI, hC, hM, hS, hX2⟩ := hLI
  have b := hI.1
  obtain ⟨hl, hs, hnt, ht5, hV⟩ := b.a
  have hn : σ.num ≤ 60000 := by omega
  have hP := b.plc
  have hnf : (σ.FS 5).length ≤ σ.nf := b.n.1
  have hkB := b.kb
  have hu := b.uq
  have hid := hI.idle
  have hmo := b.mok
  have hjd := hI.jd
  have hpo := hI.po
  have hwk := hI.wk
  have hok : ∀ k, k < 4 → ∀ F ∈ σ.FS k, FOK σ.B F := fun k hk F hF => (b.f k (Or.inl hk) F hF).1
  have hsr := b.srt
  have hdi := b.l
  have hlg := b.lg
  have hsE := b.srE
  have hmx : ∀ e ∈ allE σ, e.2.1.toInt ≤ σ.num := fun e he => (b.e e he).2
  have h5 : σ.job = false → σ.FS 5 = [] := hI.nojob
  have hmk := hI.mk24
  first | refine wp_aload_n (pc := 409) dL_law_409 rfl ?_ | refine wp_aload_nN (pc := 409) dL_law_409 rfl ?_
  first | refine wp_aload_n (pc := 410) dL_law_410 rfl ?_ | refine wp_aload_nN (pc := 410) dL_law_410 rfl ?_
  refine wp_iload_n (pc := 411) dL_law_411 rfl ?_
  refine wp_iconst (pc := 412) (v := 1) dL_law_412 (by decide) ?_
  refine wp_iadd (pc := 413) dL_law_413 ?_
  rw [(ofs (5 * t)).1]
  refine wp_saload (pc := 414) dL_law_414 (by rw [hS]; exact ofsI (by omega) hLs) ?_
  refine cv_LevelStoreLaw_60 (pc := 415) (wp_room (mc := 650) (ms := 11600) (by decide) (by decide) (s_work (Wk t) (fun _ q => q.okd) (fun _ q r s => q.step r s) hC hjd hwk (I 2 (nI (5 * t + 1)).toNatClampNeg))) rfl dL_law_415 (hC.fx.ok (by decide)) ⟨by decide, by decide, Nat.le_add_left _ _, Nat.le_add_left _ _⟩ (Nat.le_of_ble_eq_true rfl) (fun v h hp => ?_)
  obtain ⟨n1, S1, R1, I1, A1, P1, sp1, rfl, rfl, he1, hC1, hk1⟩ := hp.out
  have hX1 := hC1.fx
  have hM1 := hM.mono hk1
  have hS1 : (S1 2).2 = Ls := by rw [he1.2.1 2 (by have := hC.fx.1; omega)]; exact hS
  first | refine wp_aload_n (pc := 418) dL_law_418 rfl ?_ | refine wp_aload_nN (pc := 418) dL_law_418 rfl ?_
  first | refine wp_aload_n (pc := 419) dL_law_419 rfl ?_ | refine wp_aload_nN (pc := 419) dL_law_419 rfl ?_
  refine wp_iload_n (pc := 420) dL_law_420 rfl ?_
  refine wp_iconst (pc := 421) (v := 1) dL_law_421 (by decide) ?_
  refine wp_iadd (pc := 422) dL_law_422 ?_
  rw [(ofs (5 * t)).1]
  refine wp_saload (pc := 423) dL_law_423 (by rw [hS1]; exact ofsI (by omega) hLs) ?_
  rw [hk1 2 (Or.inl rfl)]
  refine cv_LevelStoreLaw_63 (pc := 424) (m_work hX1 (Wk t) (fun _ q => q.okd) (fun _ q r s => q.step r s) hM1 hjd hwk (I 2 (nI (5 * t + 1)).toNatClampNeg)) rfl dL_law_424 (hX1.ok (by decide)) ⟨by decide, by decide, Nat.zero_le _, Nat.zero_le _⟩ (Nat.le_of_ble_eq_true rfl) (fun v h hp => ?_)
  obtain ⟨I2, SL2, rfl, rfl, hM2, hk2⟩ := hp.out
  refine wp_icmp_eq (pc := 427) (tgt := 682) dL_law_427 (by decide) (fun hc => ?_) (fun hc => ?_)
  · skip
    refine wp_room (by omega) (by omega) (hk n1 S1 R1 I2 ⟨(σ.work (I 2 (nI (5 * t + 1)).toNatClampNeg)).2, A1, P1, sp1, SL2, hI.work ht (I 2 (nI (5 * t + 1)).toNatClampNeg), hC1.mono hk2, hM2, hS1, ?_⟩ _ ⟨rfl, rfl, rfl, rfl, trivial⟩)
    rw [hk2 2 (Or.inl (by decide)), hk1 2 (Or.inl rfl)]; exact hX2
  · exact absurd rfl hc
theorem law_install {mc ms : Nat} {post : ab_Po} (hLI : LI Ls xs t n S R I) (ht : t + 1 ≤ 512) (hL5 : 5 * t + 5 ≤ Ls) (hLs : Ls ≤ 2560) (hk : ∀ n S R I, LI Ls xs (t + 1) n S R I → ∀ L, ab_sub L [(0, .ref 2), (1, .ref 3), (2, .ref 39), (3, .int (nI (5 * t)))] → wp 13 494 mc ms ML_law 682 L [] (n, S, R, I) post) (L : List (Nat × Value)) (hL : ab_sub L [(0, .ref 2), (1, .ref 3), (2, .ref 39), (3, .int (nI (5 * t)))]) : wp 13 494 (mc + 650) (ms + 11600) ML_law 432 L [] (n, S, R, I) post := by
  refine wp_loc hL ?_
  obtain ⟨σ, A, P, sp, SL, hI, hC, hM, hS, hX2⟩ := hLI
  have b := hI.1
  obtain ⟨hl, hs, hnt, ht5, hV⟩ := b.a
  have hn : σ.num ≤ 60000 := by omega
  have hP := b.plc
  have hnf : (σ.FS 5).length ≤ σ.nf := b.n.1
  have hkB := b.kb
  have hu := b.uq
  have hid := hI.idle
  have hmo := b.mok
  have hjd := hI.jd
  have hpo := hI.po
  have hwk := hI.wk
  have hok : ∀ k, k < 4 → ∀ F ∈ σ.FS k, FOK σ.B F := fun k hk F hF => (b.f k (Or.inl hk) F hF).1
  have hsr := b.srt
  have hdi := b.l
  have hlg := b.lg
  have hsE := b.srE
  have hmx : ∀ e ∈ allE σ, e.2.1.toInt ≤ σ.num := fun e he => (b.e e he).2
  have h5 : σ.job = false → σ.FS 5 = [] := hI.nojob
  have hmk := hI.mk24
  first | refine wp_aload_n (pc := 432) dL_law_432 rfl ?_ | refine wp_aload_nN (pc := 432) dL_law_432 rfl ?_
  refine cv_LevelStoreLaw_64 (pc := 433) (wp_room (mc := 650) (ms := 11600) (by decide) (by decide) (s_install hC hjd hpo hl hs hP)) rfl dL_law_433 (hC.fx.ok (by decide)) ⟨by decide, by decide, Nat.le_add_left _ _, Nat.le_add_left _ _⟩ (Nat.le_of_ble_eq_true rfl) (fun v h hp => ?_)
  obtain ⟨n1, S1, R1, I1, A1, P1, sp1, rfl, rfl, he1, hC1, hk1⟩ := hp.out
  have hX1 := hC1.fx
  have hM1 := hM.mono hk1
  have hS1 : (S1 2).2 = Ls := by rw [he1.2.1 2 (by have := hC.fx.1; omega)]; exact hS
  first | refine wp_aload_n (pc := 436) dL_law_436 rfl ?_ | refine wp_aload_nN (pc := 436) dL_law_436 rfl ?_
  refine cv_LevelStoreLaw_67 (pc := 437) (m_install hX1 hM1 hpo hl hs) rfl dL_law_437 (hX1.ok (by decide)) ⟨by decide, by decide, Nat.zero_le _, Nat.zero_le _⟩ (Nat.le_of_ble_eq_true rfl) (fun v h hp => ?_)
  obtain ⟨I2, SL2, rfl, rfl, hM2, hk2⟩ := hp.out
  refine wp_icmp_eq (pc := 440) (tgt := 682) dL_law_440 (by decide) (fun hc => ?_) (fun hc => ?_)
  · skip
    refine wp_room (by omega) (by omega) (hk n1 S1 R1 I2 ⟨(σ.install).2, A1, P1, sp1, SL2, hI.install ht, hC1.mono hk2, hM2, hS1, ?_⟩ _ ⟨rfl, rfl, rfl, rfl, trivial⟩)
    rw [hk2 2 (Or.inl (by decide)), hk1 2 (Or.inl rfl)]; exact hX2
  · exact absurd rfl hc
theorem law_stop {mc ms : Nat} {post : ab_Po} (hLI : LI Ls xs t n S R I) (ht : t + 1 ≤ 512) (hL5 : 5 * t + 5 ≤ Ls) (hLs : Ls ≤ 2560) (hk : ∀ n S R I, LI Ls xs (t + 1) n S R I → ∀ L, ab_sub L [(0, .ref 2), (1, .ref 3), (2, .ref 39), (3, .int (nI (5 * t)))] → wp 13 494 mc ms ML_law 682 L [] (n, S, R, I) post) (L : List (Nat × Value)) (hL : ab_sub L [(0, .ref 2), (1, .ref 3), (2, .ref 39), (3, .int (nI (5 * t)))]) : wp 13 494 (mc + 650) (ms + 11600) ML_law 445 L [] (n, S, R, I) post := by
  refine wp_loc hL ?_
  obtain ⟨σ, A, P, sp, SL, hI, hC, hM, hS, hX2⟩ := hLI
  have b := hI.1
  obtain ⟨hl, hs, hnt, ht5, hV⟩ := b.a
  have hn : σ.num ≤ 60000 := by omega
  have hP := b.plc
  have hnf : (σ.FS 5).length ≤ σ.nf := b.n.1
  have hkB := b.kb
  have hu := b.uq
  have hid := hI.idle
  have hmo := b.mok
  have hjd := hI.jd
  have hpo := hI.po
  have hwk := hI.wk
  have hok : ∀ k, k < 4 → ∀ F ∈ σ.FS k, FOK σ.B F := fun k hk F hF => (b.f k (Or.inl hk) F hF).1
  have hsr := b.srt
  have hdi := b.l
  have hlg := b.lg
  have hsE := b.srE
  have hmx : ∀ e ∈ allE σ, e.2.1.toInt ≤ σ.num := fun e he => (b.e e he).2
  have h5 : σ.job = false → σ.FS 5 = [] := hI.nojob
  have hmk := hI.mk24
  first | refine wp_aload_n (pc := 445) dL_law_445 rfl ?_ | refine wp_aload_nN (pc := 445) dL_law_445 rfl ?_
  refine cv_LevelStoreLaw_68 (pc := 446) (wp_room (mc := 650) (ms := 11600) (by unfold pC; omega) (by unfold pS; omega) (s_stop hC hP hnf)) rfl dL_law_446 (hC.fx.ok (by decide)) ⟨by decide, by decide, Nat.le_add_left _ _, Nat.le_add_left _ _⟩ (Nat.le_of_ble_eq_true rfl) (fun v h hp => ?_)
  obtain ⟨n1, S1, R1, I1, A1, P1, sp1, rfl, rfl, he1, hC1, hk1⟩ := hp.out
  have hX1 := hC1.fx
  have hM1 := hM.mono hk1
  have hS1 : (S1 2).2 = Ls := by rw [he1.2.1 2 (by have := hC.fx.1; omega)]; exact hS
  first | refine wp_aload_n (pc := 449) dL_law_449 rfl ?_ | refine wp_aload_nN (pc := 449) dL_law_449 rfl ?_
  refine cv_LevelStoreLaw_71 (pc := 450) (m_stop hX1 hM1 h5 hnf) rfl dL_law_450 (hX1.ok (by decide)) ⟨by decide, by decide, Nat.zero_le _, Nat.zero_le _⟩ (Nat.le_of_ble_eq_true rfl) (fun v h hp => ?_)
  obtain ⟨I2, SL2, rfl, rfl, hM2, hk2⟩ := hp.out
  refine wp_icmp_eq (pc := 453) (tgt := 682) dL_law_453 (by decide) (fun hc => ?_) (fun hc => ?_)
  · skip
    refine wp_room (by omega) (by omega) (hk n1 S1 R1 I2 ⟨(σ.stop).2, A1, P1, sp1, SL2, hI.stop ht, hC1.mono hk2, hM2, hS1, ?_⟩ _ ⟨rfl, rfl, rfl, rfl, trivial⟩)
    rw [hk2 2 (Or.inl (by decide)), hk1 2 (Or.inl rfl)]; exact hX2
  · exact absurd rfl hc
theorem law_high {mc ms : Nat} {post : ab_Po} (hLI : LI Ls xs t n S R I) (ht : t + 1 ≤ 512) (hL5 : 5 * t + 5 ≤ Ls) (hLs : Ls ≤ 2560) (hk : ∀ n S R I, LI Ls xs (t + 1) n S R I → ∀ L, ab_sub L [(0, .ref 2), (1, .ref 3), (2, .ref 39), (3, .int (nI (5 * t)))] → wp 13 494 mc ms ML_law 682 L [] (n, S, R, I) post) (L : List (Nat × Value)) (hL : ab_sub L [(0, .ref 2), (1, .ref 3), (2, .ref 39), (3, .int (nI (5 * t)))]) : wp 13 494 (mc + 650) (ms + 11600) ML_law 458 L [] (n, S, R, I) post := by
  refine wp_loc hL ?_
  obtain ⟨σ, A, P, sp, SL, hI, hC, hM, hS, hX2⟩ := hLI
  have b := hI.1
  obtain ⟨hl, hs, hnt, ht5, hV⟩ := b.a
  have hn : σ.num ≤ 60000 := by omega
  have hP := b.plc
  have hnf : (σ.FS 5).length ≤ σ.nf := b.n.1
  have hkB := b.kb
  have hu := b.uq
  have hid := hI.idle
  have hmo := b.mok
  have hjd := hI.jd
  have hpo := hI.po
  have hwk := hI.wk
  have hok : ∀ k, k < 4 → ∀ F ∈ σ.FS k, FOK σ.B F := fun k hk F hF => (b.f k (Or.inl hk) F hF).1
  have hsr := b.srt
  have hdi := b.l
  have hlg := b.lg
  have hsE := b.srE
  have hmx : ∀ e ∈ allE σ, e.2.1.toInt ≤ σ.num := fun e he => (b.e e he).2
  have h5 : σ.job = false → σ.FS 5 = [] := hI.nojob
  have hmk := hI.mk24
  first | refine wp_aload_n (pc := 458) dL_law_458 rfl ?_ | refine wp_aload_nN (pc := 458) dL_law_458 rfl ?_
  refine cv_LevelStoreLaw_72 (pc := 459) (wp_room (mc := 650) (ms := 11600) (by decide) (by decide) (s_high hC)) rfl dL_law_459 (hC.fx.ok (by decide)) ⟨by decide, by decide, Nat.le_add_left _ _, Nat.le_add_left _ _⟩ (Nat.le_of_ble_eq_true rfl) (fun v h hp => ?_)
  obtain ⟨n1, S1, R1, I1, A1, P1, sp1, rfl, rfl, he1, hC1, hk1⟩ := hp.out
  have hX1 := hC1.fx
  have hM1 := hM.mono hk1
  have hS1 : (S1 2).2 = Ls := by rw [he1.2.1 2 (by have := hC.fx.1; omega)]; exact hS
  first | refine wp_aload_n (pc := 462) dL_law_462 rfl ?_ | refine wp_aload_nN (pc := 462) dL_law_462 rfl ?_
  refine cv_LevelStoreLaw_75 (pc := 463) (m_high hX1 hM1 hsr) rfl dL_law_463 (hX1.ok (by decide)) ⟨by decide, by decide, Nat.zero_le _, Nat.zero_le _⟩ (Nat.le_of_ble_eq_true rfl) (fun v h hp => ?_)
  obtain ⟨I2, SL2, rfl, rfl, hM2, hk2⟩ := hp.out
  refine wp_icmp_eq (pc := 466) (tgt := 682) dL_law_466 (by decide) (fun hc => ?_) (fun hc => ?_)
  · skip
    refine wp_room (by omega) (by omega) (hk n1 S1 R1 I2 ⟨(σ.high).2, A1, P1, sp1, SL2, (by rw [high_2]; exact hI.up ht), hC1.mono hk2, hM2, hS1, ?_⟩ _ ⟨rfl, rfl, rfl, rfl, trivial⟩)
    rw [hk2 2 (Or.inl (by decide)), hk1 2 (Or.inl rfl)]; exact hX2
  · exact absurd rfl hc
theorem law_files {mc ms : Nat} {post : ab_Po} (hLI : LI Ls xs t n S R I) (ht : t + 1 ≤ 512) (hL5 : 5 * t + 5 ≤ Ls) (hLs : Ls ≤ 2560) (hk : ∀ n S R I, LI Ls xs (t + 1) n S R I → ∀ L, ab_sub L [(0, .ref 2), (1, .ref 3), (2, .ref 39), (3, .int (nI (5 * t)))] → wp 13 494 mc ms ML_law 682 L [] (n, S, R, I) post) (L : List (Nat × Value)) (hL : ab_sub L [(0, .ref 2), (1, .ref 3), (2, .ref 39), (3, .int (nI (5 * t)))]) : wp 13 494 (mc + 650) (ms + 11600) ML_law 471 L [] (n, S, R, I) post := by
  refine wp_loc hL ?_
  obtain ⟨σ, A, P, sp, SL, hI, hC, hM, hS, hX2⟩ := hLI
  have b := hI.1
  obtain ⟨hl, hs, hnt, ht5, hV⟩ := b.a
  have hn : σ.num ≤ 60000 := by omega
  have hP := b.plc
  have hnf : (σ.FS 5).length ≤ σ.nf := b.n.1
  have hkB := b.kb
  have hu := b.uq
  have hid := hI.idle
  have hmo := b.mok
  have hjd := hI.jd
  have hpo := hI.po
  have hwk := hI.wk
  have hok : ∀ k, k < 4 → ∀ F ∈ σ.FS k, FOK σ.B F := fun k hk F hF => (b.f k (Or.inl hk) F hF).1
  have hsr := b.srt
  have hdi := b.l
  have hlg := b.lg
  have hsE := b.srE
  have hmx : ∀ e ∈ allE σ, e.2.1.toInt ≤ σ.num := fun e he => (b.e e he).2
  have h5 : σ.job = false → σ.FS 5 = [] := hI.nojob
  have hmk := hI.mk24
  first | refine wp_aload_n (pc := 471) dL_law_471 rfl ?_ | refine wp_aload_nN (pc := 471) dL_law_471 rfl ?_
  first | refine wp_aload_n (pc := 472) dL_law_472 rfl ?_ | refine wp_aload_nN (pc := 472) dL_law_472 rfl ?_
  refine wp_iload_n (pc := 473) dL_law_473 rfl ?_
  refine wp_iconst (pc := 474) (v := 1) dL_law_474 (by decide) ?_
  refine wp_iadd (pc := 475) dL_law_475 ?_
  rw [(ofs (5 * t)).1]
  refine wp_saload (pc := 476) dL_law_476 (by rw [hS]; exact ofsI (by omega) hLs) ?_
  refine cv_LevelStoreLaw_76 (pc := 477) (wp_room (mc := 650) (ms := 11600) (by decide) (by decide) (s_filesP hC (I 2 (nI (5 * t + 1)).toNatClampNeg))) rfl dL_law_477 (hC.fx.ok (by decide)) ⟨by decide, by decide, Nat.le_add_left _ _, Nat.le_add_left _ _⟩ (Nat.le_of_ble_eq_true rfl) (fun v h hp => ?_)
  obtain ⟨n1, S1, R1, I1, A1, P1, sp1, rfl, rfl, he1, hC1, hk1⟩ := hp.out
  have hX1 := hC1.fx
  have hM1 := hM.mono hk1
  have hS1 : (S1 2).2 = Ls := by rw [he1.2.1 2 (by have := hC.fx.1; omega)]; exact hS
  first | refine wp_aload_n (pc := 480) dL_law_480 rfl ?_ | refine wp_aload_nN (pc := 480) dL_law_480 rfl ?_
  first | refine wp_aload_n (pc := 481) dL_law_481 rfl ?_ | refine wp_aload_nN (pc := 481) dL_law_481 rfl ?_
  refine wp_iload_n (pc := 482) dL_law_482 rfl ?_
  refine wp_iconst (pc := 483) (v := 1) dL_law_483 (by decide) ?_
  refine wp_iadd (pc := 484) dL_law_484 ?_
  rw [(ofs (5 * t)).1]
  refine wp_saload (pc := 485) dL_law_485 (by rw [hS1]; exact ofsI (by omega) hLs) ?_
  rw [hk1 2 (Or.inl rfl)]
  refine cv_LevelStoreLaw_79 (pc := 486) (m_files hX1 hM1 hsr (I 2 (nI (5 * t + 1)).toNatClampNeg)) rfl dL_law_486 (hX1.ok (by decide)) ⟨by decide, by decide, Nat.zero_le _, Nat.zero_le _⟩ (Nat.le_of_ble_eq_true rfl) (fun v h hp => ?_)
  obtain ⟨I2, SL2, rfl, rfl, hM2, hk2⟩ := hp.out
  refine wp_icmp_eq (pc := 489) (tgt := 682) dL_law_489 (by decide) (fun hc => ?_) (fun hc => ?_)
  · skip
    refine wp_room (by omega) (by omega) (hk n1 S1 R1 I2 ⟨(σ.files (I 2 (nI (5 * t + 1)).toNatClampNeg)).2, A1, P1, sp1, SL2, (by rw [files_2]; exact hI.up ht), hC1.mono hk2, hM2, hS1, ?_⟩ _ ⟨rfl, rfl, rfl, rfl, trivial⟩)
    rw [hk2 2 (Or.inl (by decide)), hk1 2 (Or.inl rfl)]; exact hX2
  · exact absurd rfl hc
theorem law_file {mc ms : Nat} {post : ab_Po} (hLI : LI Ls xs t n S R I) (ht : t + 1 ≤ 512) (hL5 : 5 * t + 5 ≤ Ls) (hLs : Ls ≤ 2560) (hk : ∀ n S R I, LI Ls xs (t + 1) n S R I → ∀ L, ab_sub L [(0, .ref 2), (1, .ref 3), (2, .ref 39), (3, .int (nI (5 * t)))] → wp 13 494 mc ms ML_law 682 L [] (n, S, R, I) post) (L : List (Nat × Value)) (hL : ab_sub L [(0, .ref 2), (1, .ref 3), (2, .ref 39), (3, .int (nI (5 * t)))]) : wp 13 494 (mc + 650) (ms + 11600) ML_law 494 L [] (n, S, R, I) post := by
  refine wp_loc hL ?_
  obtain ⟨σ, A, P, sp, SL, hI, hC, hM, hS, hX2⟩ := hLI
  have b := hI.1
  obtain ⟨hl, hs, hnt, ht5, hV⟩ := b.a
  have hn : σ.num ≤ 60000 := by omega
  have hP := b.plc
  have hnf : (σ.FS 5).length ≤ σ.nf := b.n.1
  have hkB := b.kb
  have hu := b.uq
  have hid := hI.idle
  have hmo := b.mok
  have hjd := hI.jd
  have hpo := hI.po
  have hwk := hI.wk
  have hok : ∀ k, k < 4 → ∀ F ∈ σ.FS k, FOK σ.B F := fun k hk F hF => (b.f k (Or.inl hk) F hF).1
  have hsr := b.srt
  have hdi := b.l
  have hlg := b.lg
  have hsE := b.srE
  have hmx : ∀ e ∈ allE σ, e.2.1.toInt ≤ σ.num := fun e he => (b.e e he).2
  have h5 : σ.job = false → σ.FS 5 = [] := hI.nojob
  have hmk := hI.mk24
  first | refine wp_aload_n (pc := 494) dL_law_494 rfl ?_ | refine wp_aload_nN (pc := 494) dL_law_494 rfl ?_
  first | refine wp_aload_n (pc := 495) dL_law_495 rfl ?_ | refine wp_aload_nN (pc := 495) dL_law_495 rfl ?_
  refine wp_iload_n (pc := 496) dL_law_496 rfl ?_
  refine wp_iconst (pc := 497) (v := 1) dL_law_497 (by decide) ?_
  refine wp_iadd (pc := 498) dL_law_498 ?_
  rw [(ofs (5 * t)).1]
  refine wp_saload (pc := 499) dL_law_499 (by rw [hS]; exact ofsI (by omega) hLs) ?_
  first | refine wp_aload_n (pc := 500) dL_law_500 rfl ?_ | refine wp_aload_nN (pc := 500) dL_law_500 rfl ?_
  refine wp_iload_n (pc := 501) dL_law_501 rfl ?_
  refine wp_iconst (pc := 502) (v := 2) dL_law_502 (by decide) ?_
  refine wp_iadd (pc := 503) dL_law_503 ?_
  rw [(ofs (5 * t)).2.1]
  refine wp_saload (pc := 504) dL_law_504 (by rw [hS]; exact ofsI (by omega) hLs) ?_
  first | refine wp_aload_n (pc := 505) dL_law_505 rfl ?_ | refine wp_aload_nN (pc := 505) dL_law_505 rfl ?_
  refine wp_iload_n (pc := 506) dL_law_506 rfl ?_
  refine wp_iconst (pc := 507) (v := 3) dL_law_507 (by decide) ?_
  refine wp_iadd (pc := 508) dL_law_508 ?_
  rw [(ofs (5 * t)).2.2.1]
  refine wp_saload (pc := 509) dL_law_509 (by rw [hS]; exact ofsI (by omega) hLs) ?_
  refine cv_LevelStoreLaw_80 (pc := 510) (wp_room (mc := 650) (ms := 11600) (by decide) (by decide) (s_file hC (I 2 (nI (5 * t + 1)).toNatClampNeg) (I 2 (nI (5 * t + 2)).toNatClampNeg) (I 2 (nI (5 * t + 3)).toNatClampNeg))) rfl dL_law_510 (hC.fx.ok (by decide)) ⟨by decide, by decide, Nat.le_add_left _ _, Nat.le_add_left _ _⟩ (Nat.le_of_ble_eq_true rfl) (fun v h hp => ?_)
  obtain ⟨n1, S1, R1, I1, A1, P1, sp1, rfl, rfl, he1, hC1, hk1⟩ := hp.out
  have hX1 := hC1.fx
  have hM1 := hM.mono hk1
  have hS1 : (S1 2).2 = Ls := by rw [he1.2.1 2 (by have := hC.fx.1; omega)]; exact hS
  first | refine wp_aload_n (pc := 513) dL_law_513 rfl ?_ | refine wp_aload_nN (pc := 513) dL_law_513 rfl ?_
  first | refine wp_aload_n (pc := 514) dL_law_514 rfl ?_ | refine wp_aload_nN (pc := 514) dL_law_514 rfl ?_
  refine wp_iload_n (pc := 515) dL_law_515 rfl ?_
  refine wp_iconst (pc := 516) (v := 1) dL_law_516 (by decide) ?_
  refine wp_iadd (pc := 517) dL_law_517 ?_
  rw [(ofs (5 * t)).1]
  refine wp_saload (pc := 518) dL_law_518 (by rw [hS1]; exact ofsI (by omega) hLs) ?_
  rw [hk1 2 (Or.inl rfl)]
  first | refine wp_aload_n (pc := 519) dL_law_519 rfl ?_ | refine wp_aload_nN (pc := 519) dL_law_519 rfl ?_
  refine wp_iload_n (pc := 520) dL_law_520 rfl ?_
  refine wp_iconst (pc := 521) (v := 2) dL_law_521 (by decide) ?_
  refine wp_iadd (pc := 522) dL_law_522 ?_
  rw [(ofs (5 * t)).2.1]
  refine wp_saload (pc := 523) dL_law_523 (by rw [hS1]; exact ofsI (by omega) hLs) ?_
  rw [hk1 2 (Or.inl rfl)]
  first | refine wp_aload_n (pc := 524) dL_law_524 rfl ?_ | refine wp_aload_nN (pc := 524) dL_law_524 rfl ?_
  refine wp_iload_n (pc := 525) dL_law_525 rfl ?_
  refine wp_iconst (pc := 526) (v := 3) dL_law_526 (by decide) ?_
  refine wp_iadd (pc := 527) dL_law_527 ?_
  rw [(ofs (5 * t)).2.2.1]
  refine wp_saload (pc := 528) dL_law_528 (by rw [hS1]; exact ofsI (by omega) hLs) ?_
  rw [hk1 2 (Or.inl rfl)]
  refine cv_LevelStoreLaw_84 (pc := 529) (m_file hX1 hM1 hsr (I 2 (nI (5 * t + 1)).toNatClampNeg) (I 2 (nI (5 * t + 2)).toNatClampNeg) (I 2 (nI (5 * t + 3)).toNatClampNeg)) rfl dL_law_529 (hX1.ok (by decide)) ⟨by decide, by decide, Nat.zero_le _, Nat.zero_le _⟩ (Nat.le_of_ble_eq_true rfl) (fun v h hp => ?_)
  obtain ⟨I2, SL2, rfl, rfl, hM2, hk2⟩ := hp.out
  refine wp_icmp_eq (pc := 532) (tgt := 682) dL_law_532 (by decide) (fun hc => ?_) (fun hc => ?_)
  · skip
    refine wp_room (by omega) (by omega) (hk n1 S1 R1 I2 ⟨(σ.file (I 2 (nI (5 * t + 1)).toNatClampNeg) (I 2 (nI (5 * t + 2)).toNatClampNeg) (I 2 (nI (5 * t + 3)).toNatClampNeg)).2, A1, P1, sp1, SL2, (by rw [file_2]; exact hI.up ht), hC1.mono hk2, hM2, hS1, ?_⟩ _ ⟨rfl, rfl, rfl, rfl, trivial⟩)
    rw [hk2 2 (Or.inl (by decide)), hk1 2 (Or.inl rfl)]; exact hX2
  · exact absurd rfl hc
theorem law_entry {mc ms : Nat} {post : ab_Po} (hLI : LI Ls xs t n S R I) (ht : t + 1 ≤ 512) (hL5 : 5 * t + 5 ≤ Ls) (hLs : Ls ≤ 2560) (hk : ∀ n S R I, LI Ls xs (t + 1) n S R I → ∀ L, ab_sub L [(0, .ref 2), (1, .ref 3), (2, .ref 39), (3, .int (nI (5 * t)))] → wp 13 494 mc ms ML_law 682 L [] (n, S, R, I) post) (L : List (Nat × Value)) (hL : ab_sub L [(0, .ref 2), (1, .ref 3), (2, .ref 39), (3, .int (nI (5 * t)))]) : wp 13 494 (mc + 650) (ms + 11600) ML_law 537 L [] (n, S, R, I) post := by
  refine wp_loc hL ?_
  obtain ⟨σ, A, P, sp, SL, hI, hC, hM, hS, hX2⟩ := hLI
  have b := hI.1
  obtain ⟨hl, hs, hnt, ht5, hV⟩ := b.a
  have hn : σ.num ≤ 60000 := by omega
  have hP := b.plc
  have hnf : (σ.FS 5).length ≤ σ.nf := b.n.1
  have hkB := b.kb
  have hu := b.uq
  have hid := hI.idle
  have hmo := b.mok
  have hjd := hI.jd
  have hpo := hI.po
  have hwk := hI.wk
  have hok : ∀ k, k < 4 → ∀ F ∈ σ.FS k, FOK σ.B F := fun k hk F hF => (b.f k (Or.inl hk) F hF).1
  have hsr := b.srt
  have hdi := b.l
  have hlg := b.lg
  have hsE := b.srE
  have hmx : ∀ e ∈ allE σ, e.2.1.toInt ≤ σ.num := fun e he => (b.e e he).2
  have h5 : σ.job = false → σ.FS 5 = [] := hI.nojob
  have hmk := hI.mk24
  first | refine wp_aload_n (pc := 537) dL_law_537 rfl ?_ | refine wp_aload_nN (pc := 537) dL_law_537 rfl ?_
  first | refine wp_aload_n (pc := 538) dL_law_538 rfl ?_ | refine wp_aload_nN (pc := 538) dL_law_538 rfl ?_
  refine wp_iload_n (pc := 539) dL_law_539 rfl ?_
  refine wp_iconst (pc := 540) (v := 1) dL_law_540 (by decide) ?_
  refine wp_iadd (pc := 541) dL_law_541 ?_
  rw [(ofs (5 * t)).1]
  refine wp_saload (pc := 542) dL_law_542 (by rw [hS]; exact ofsI (by omega) hLs) ?_
  first | refine wp_aload_n (pc := 543) dL_law_543 rfl ?_ | refine wp_aload_nN (pc := 543) dL_law_543 rfl ?_
  refine wp_iload_n (pc := 544) dL_law_544 rfl ?_
  refine wp_iconst (pc := 545) (v := 2) dL_law_545 (by decide) ?_
  refine wp_iadd (pc := 546) dL_law_546 ?_
  rw [(ofs (5 * t)).2.1]
  refine wp_saload (pc := 547) dL_law_547 (by rw [hS]; exact ofsI (by omega) hLs) ?_
  first | refine wp_aload_n (pc := 548) dL_law_548 rfl ?_ | refine wp_aload_nN (pc := 548) dL_law_548 rfl ?_
  refine wp_iload_n (pc := 549) dL_law_549 rfl ?_
  refine wp_iconst (pc := 550) (v := 3) dL_law_550 (by decide) ?_
  refine wp_iadd (pc := 551) dL_law_551 ?_
  rw [(ofs (5 * t)).2.2.1]
  refine wp_saload (pc := 552) dL_law_552 (by rw [hS]; exact ofsI (by omega) hLs) ?_
  first | refine wp_aload_n (pc := 553) dL_law_553 rfl ?_ | refine wp_aload_nN (pc := 553) dL_law_553 rfl ?_
  refine wp_iload_n (pc := 554) dL_law_554 rfl ?_
  refine wp_iconst (pc := 555) (v := 4) dL_law_555 (by decide) ?_
  refine wp_iadd (pc := 556) dL_law_556 ?_
  rw [(ofs (5 * t)).2.2.2]
  refine wp_saload (pc := 557) dL_law_557 (by rw [hS]; exact ofsI (by omega) hLs) ?_
  refine cv_LevelStoreLaw_85 (pc := 558) (wp_room (mc := 650) (ms := 11600) (by decide) (by decide) (s_entry hC (I 2 (nI (5 * t + 1)).toNatClampNeg) (I 2 (nI (5 * t + 2)).toNatClampNeg) (I 2 (nI (5 * t + 3)).toNatClampNeg) (I 2 (nI (5 * t + 4)).toNatClampNeg))) rfl dL_law_558 (hC.fx.ok (by decide)) ⟨by decide, by decide, Nat.le_add_left _ _, Nat.le_add_left _ _⟩ (Nat.le_of_ble_eq_true rfl) (fun v h hp => ?_)
  obtain ⟨n1, S1, R1, I1, A1, P1, sp1, rfl, rfl, he1, hC1, hk1⟩ := hp.out
  have hX1 := hC1.fx
  have hM1 := hM.mono hk1
  have hS1 : (S1 2).2 = Ls := by rw [he1.2.1 2 (by have := hC.fx.1; omega)]; exact hS
  first | refine wp_aload_n (pc := 561) dL_law_561 rfl ?_ | refine wp_aload_nN (pc := 561) dL_law_561 rfl ?_
  first | refine wp_aload_n (pc := 562) dL_law_562 rfl ?_ | refine wp_aload_nN (pc := 562) dL_law_562 rfl ?_
  refine wp_iload_n (pc := 563) dL_law_563 rfl ?_
  refine wp_iconst (pc := 564) (v := 1) dL_law_564 (by decide) ?_
  refine wp_iadd (pc := 565) dL_law_565 ?_
  rw [(ofs (5 * t)).1]
  refine wp_saload (pc := 566) dL_law_566 (by rw [hS1]; exact ofsI (by omega) hLs) ?_
  rw [hk1 2 (Or.inl rfl)]
  first | refine wp_aload_n (pc := 567) dL_law_567 rfl ?_ | refine wp_aload_nN (pc := 567) dL_law_567 rfl ?_
  refine wp_iload_n (pc := 568) dL_law_568 rfl ?_
  refine wp_iconst (pc := 569) (v := 2) dL_law_569 (by decide) ?_
  refine wp_iadd (pc := 570) dL_law_570 ?_
  rw [(ofs (5 * t)).2.1]
  refine wp_saload (pc := 571) dL_law_571 (by rw [hS1]; exact ofsI (by omega) hLs) ?_
  rw [hk1 2 (Or.inl rfl)]
  first | refine wp_aload_n (pc := 572) dL_law_572 rfl ?_ | refine wp_aload_nN (pc := 572) dL_law_572 rfl ?_
  refine wp_iload_n (pc := 573) dL_law_573 rfl ?_
  refine wp_iconst (pc := 574) (v := 3) dL_law_574 (by decide) ?_
  refine wp_iadd (pc := 575) dL_law_575 ?_
  rw [(ofs (5 * t)).2.2.1]
  refine wp_saload (pc := 576) dL_law_576 (by rw [hS1]; exact ofsI (by omega) hLs) ?_
  rw [hk1 2 (Or.inl rfl)]
  first | refine wp_aload_n (pc := 577) dL_law_577 rfl ?_ | refine wp_aload_nN (pc := 577) dL_law_577 rfl ?_
  refine wp_iload_n (pc := 578) dL_law_578 rfl ?_
  refine wp_iconst (pc := 579) (v := 4) dL_law_579 (by decide) ?_
  refine wp_iadd (pc := 580) dL_law_580 ?_
  rw [(ofs (5 * t)).2.2.2]
  refine wp_saload (pc := 581) dL_law_581 (by rw [hS1]; exact ofsI (by omega) hLs) ?_
  rw [hk1 2 (Or.inl rfl)]
  refine cv_LevelStoreLaw_89 (pc := 582) (m_entry hX1 hM1 hsr (I 2 (nI (5 * t + 1)).toNatClampNeg) (I 2 (nI (5 * t + 2)).toNatClampNeg) (I 2 (nI (5 * t + 3)).toNatClampNeg) (I 2 (nI (5 * t + 4)).toNatClampNeg)) rfl dL_law_582 (hX1.ok (by decide)) ⟨by decide, by decide, Nat.zero_le _, Nat.zero_le _⟩ (Nat.le_of_ble_eq_true rfl) (fun v h hp => ?_)
  obtain ⟨I2, SL2, rfl, rfl, hM2, hk2⟩ := hp.out
  refine wp_icmp_eq (pc := 585) (tgt := 682) dL_law_585 (by decide) (fun hc => ?_) (fun hc => ?_)
  · skip
    refine wp_room (by omega) (by omega) (hk n1 S1 R1 I2 ⟨(σ.entry (I 2 (nI (5 * t + 1)).toNatClampNeg) (I 2 (nI (5 * t + 2)).toNatClampNeg) (I 2 (nI (5 * t + 3)).toNatClampNeg) (I 2 (nI (5 * t + 4)).toNatClampNeg)).2, A1, P1, sp1, SL2, (by rw [entry_2]; exact hI.up ht), hC1.mono hk2, hM2, hS1, ?_⟩ _ ⟨rfl, rfl, rfl, rfl, trivial⟩)
    rw [hk2 2 (Or.inl (by decide)), hk1 2 (Or.inl rfl)]; exact hX2
  · exact absurd rfl hc
theorem law_byteAt {mc ms : Nat} {post : ab_Po} (hLI : LI Ls xs t n S R I) (ht : t + 1 ≤ 512) (hL5 : 5 * t + 5 ≤ Ls) (hLs : Ls ≤ 2560) (hk : ∀ n S R I, LI Ls xs (t + 1) n S R I → ∀ L, ab_sub L [(0, .ref 2), (1, .ref 3), (2, .ref 39), (3, .int (nI (5 * t)))] → wp 13 494 mc ms ML_law 682 L [] (n, S, R, I) post) (L : List (Nat × Value)) (hL : ab_sub L [(0, .ref 2), (1, .ref 3), (2, .ref 39), (3, .int (nI (5 * t)))]) : wp 13 494 (mc + 650) (ms + 11600) ML_law 590 L [] (n, S, R, I) post := by
  refine wp_loc hL ?_
  obtain ⟨σ, A, P, sp, SL, hI, hC, hM, hS, hX2⟩ := hLI
  have b := hI.1
  obtain ⟨hl, hs, hnt, ht5, hV⟩ := b.a
  have hn : σ.num ≤ 60000 := by omega
  have hP := b.plc
  have hnf : (σ.FS 5).length ≤ σ.nf := b.n.1
  have hkB := b.kb
  have hu := b.uq
  have hid := hI.idle
  have hmo := b.mok
  have hjd := hI.jd
  have hpo := hI.po
  have hwk := hI.wk
  have hok : ∀ k, k < 4 → ∀ F ∈ σ.FS k, FOK σ.B F := fun k hk F hF => (b.f k (Or.inl hk) F hF).1
  have hsr := b.srt
  have hdi := b.l
  have hlg := b.lg
  have hsE := b.srE
  have hmx : ∀ e ∈ allE σ, e.2.1.toInt ≤ σ.num := fun e he => (b.e e he).2
  have h5 : σ.job = false → σ.FS 5 = [] := hI.nojob
  have hmk := hI.mk24
  first | refine wp_aload_n (pc := 590) dL_law_590 rfl ?_ | refine wp_aload_nN (pc := 590) dL_law_590 rfl ?_
  first | refine wp_aload_n (pc := 591) dL_law_591 rfl ?_ | refine wp_aload_nN (pc := 591) dL_law_591 rfl ?_
  refine wp_iload_n (pc := 592) dL_law_592 rfl ?_
  refine wp_iconst (pc := 593) (v := 1) dL_law_593 (by decide) ?_
  refine wp_iadd (pc := 594) dL_law_594 ?_
  rw [(ofs (5 * t)).1]
  refine wp_saload (pc := 595) dL_law_595 (by rw [hS]; exact ofsI (by omega) hLs) ?_
  refine cv_LevelStoreLaw_90 (pc := 596) (wp_room (mc := 650) (ms := 11600) (by decide) (by decide) (s_byteAt hC (I 2 (nI (5 * t + 1)).toNatClampNeg))) rfl dL_law_596 (hC.fx.ok (by decide)) ⟨by decide, by decide, Nat.le_add_left _ _, Nat.le_add_left _ _⟩ (Nat.le_of_ble_eq_true rfl) (fun v h hp => ?_)
  obtain ⟨n1, S1, R1, I1, A1, P1, sp1, rfl, rfl, he1, hC1, hk1⟩ := hp.out
  have hX1 := hC1.fx
  have hM1 := hM.mono hk1
  have hS1 : (S1 2).2 = Ls := by rw [he1.2.1 2 (by have := hC.fx.1; omega)]; exact hS
  first | refine wp_aload_n (pc := 599) dL_law_599 rfl ?_ | refine wp_aload_nN (pc := 599) dL_law_599 rfl ?_
  first | refine wp_aload_n (pc := 600) dL_law_600 rfl ?_ | refine wp_aload_nN (pc := 600) dL_law_600 rfl ?_
  refine wp_iload_n (pc := 601) dL_law_601 rfl ?_
  refine wp_iconst (pc := 602) (v := 1) dL_law_602 (by decide) ?_
  refine wp_iadd (pc := 603) dL_law_603 ?_
  rw [(ofs (5 * t)).1]
  refine wp_saload (pc := 604) dL_law_604 (by rw [hS1]; exact ofsI (by omega) hLs) ?_
  rw [hk1 2 (Or.inl rfl)]
  refine cv_LevelStoreLaw_93 (pc := 605) (m_byteAt hX1 hM1 (I 2 (nI (5 * t + 1)).toNatClampNeg)) rfl dL_law_605 (hX1.ok (by decide)) ⟨by decide, by decide, Nat.zero_le _, Nat.zero_le _⟩ (Nat.le_of_ble_eq_true rfl) (fun v h hp => ?_)
  obtain ⟨I2, SL2, rfl, rfl, hM2, hk2⟩ := hp.out
  refine wp_icmp_eq (pc := 608) (tgt := 682) dL_law_608 (by decide) (fun hc => ?_) (fun hc => ?_)
  · skip
    refine wp_room (by omega) (by omega) (hk n1 S1 R1 I2 ⟨(σ.byteAt (I 2 (nI (5 * t + 1)).toNatClampNeg)).2, A1, P1, sp1, SL2, (by rw [byteAt_2]; exact hI.up ht), hC1.mono hk2, hM2, hS1, ?_⟩ _ ⟨rfl, rfl, rfl, rfl, trivial⟩)
    rw [hk2 2 (Or.inl (by decide)), hk1 2 (Or.inl rfl)]; exact hX2
  · exact absurd rfl hc
theorem law_log {mc ms : Nat} {post : ab_Po} (hLI : LI Ls xs t n S R I) (ht : t + 1 ≤ 512) (hL5 : 5 * t + 5 ≤ Ls) (hLs : Ls ≤ 2560) (hk : ∀ n S R I, LI Ls xs (t + 1) n S R I → ∀ L, ab_sub L [(0, .ref 2), (1, .ref 3), (2, .ref 39), (3, .int (nI (5 * t)))] → wp 13 494 mc ms ML_law 682 L [] (n, S, R, I) post) (L : List (Nat × Value)) (hL : ab_sub L [(0, .ref 2), (1, .ref 3), (2, .ref 39), (3, .int (nI (5 * t)))]) : wp 13 494 (mc + 650) (ms + 11600) ML_law 613 L [] (n, S, R, I) post := by
  refine wp_loc hL ?_
  obtain ⟨σ, A, P, sp, SL, hI, hC, hM, hS, hX2⟩ := hLI
  have b := hI.1
  obtain ⟨hl, hs, hnt, ht5, hV⟩ := b.a
  have hn : σ.num ≤ 60000 := by omega
  have hP := b.plc
  have hnf : (σ.FS 5).length ≤ σ.nf := b.n.1
  have hkB := b.kb
  have hu := b.uq
  have hid := hI.idle
  have hmo := b.mok
  have hjd := hI.jd
  have hpo := hI.po
  have hwk := hI.wk
  have hok : ∀ k, k < 4 → ∀ F ∈ σ.FS k, FOK σ.B F := fun k hk F hF => (b.f k (Or.inl hk) F hF).1
  have hsr := b.srt
  have hdi := b.l
  have hlg := b.lg
  have hsE := b.srE
  have hmx : ∀ e ∈ allE σ, e.2.1.toInt ≤ σ.num := fun e he => (b.e e he).2
  have h5 : σ.job = false → σ.FS 5 = [] := hI.nojob
  have hmk := hI.mk24
  first | refine wp_aload_n (pc := 613) dL_law_613 rfl ?_ | refine wp_aload_nN (pc := 613) dL_law_613 rfl ?_
  first | refine wp_aload_n (pc := 614) dL_law_614 rfl ?_ | refine wp_aload_nN (pc := 614) dL_law_614 rfl ?_
  refine wp_iload_n (pc := 615) dL_law_615 rfl ?_
  refine wp_iconst (pc := 616) (v := 1) dL_law_616 (by decide) ?_
  refine wp_iadd (pc := 617) dL_law_617 ?_
  rw [(ofs (5 * t)).1]
  refine wp_saload (pc := 618) dL_law_618 (by rw [hS]; exact ofsI (by omega) hLs) ?_
  first | refine wp_aload_n (pc := 619) dL_law_619 rfl ?_ | refine wp_aload_nN (pc := 619) dL_law_619 rfl ?_
  refine wp_iload_n (pc := 620) dL_law_620 rfl ?_
  refine wp_iconst (pc := 621) (v := 2) dL_law_621 (by decide) ?_
  refine wp_iadd (pc := 622) dL_law_622 ?_
  rw [(ofs (5 * t)).2.1]
  refine wp_saload (pc := 623) dL_law_623 (by rw [hS]; exact ofsI (by omega) hLs) ?_
  refine cv_LevelStoreLaw_94 (pc := 624) (wp_room (mc := 650) (ms := 11600) (by decide) (by decide) (s_log hC hl (I 2 (nI (5 * t + 1)).toNatClampNeg) (I 2 (nI (5 * t + 2)).toNatClampNeg))) rfl dL_law_624 (hC.fx.ok (by decide)) ⟨by decide, by decide, Nat.le_add_left _ _, Nat.le_add_left _ _⟩ (Nat.le_of_ble_eq_true rfl) (fun v h hp => ?_)
  obtain ⟨n1, S1, R1, I1, A1, P1, sp1, rfl, rfl, he1, hC1, hk1⟩ := hp.out
  have hX1 := hC1.fx
  have hM1 := hM.mono hk1
  have hS1 : (S1 2).2 = Ls := by rw [he1.2.1 2 (by have := hC.fx.1; omega)]; exact hS
  first | refine wp_aload_n (pc := 627) dL_law_627 rfl ?_ | refine wp_aload_nN (pc := 627) dL_law_627 rfl ?_
  first | refine wp_aload_n (pc := 628) dL_law_628 rfl ?_ | refine wp_aload_nN (pc := 628) dL_law_628 rfl ?_
  refine wp_iload_n (pc := 629) dL_law_629 rfl ?_
  refine wp_iconst (pc := 630) (v := 1) dL_law_630 (by decide) ?_
  refine wp_iadd (pc := 631) dL_law_631 ?_
  rw [(ofs (5 * t)).1]
  refine wp_saload (pc := 632) dL_law_632 (by rw [hS1]; exact ofsI (by omega) hLs) ?_
  rw [hk1 2 (Or.inl rfl)]
  first | refine wp_aload_n (pc := 633) dL_law_633 rfl ?_ | refine wp_aload_nN (pc := 633) dL_law_633 rfl ?_
  refine wp_iload_n (pc := 634) dL_law_634 rfl ?_
  refine wp_iconst (pc := 635) (v := 2) dL_law_635 (by decide) ?_
  refine wp_iadd (pc := 636) dL_law_636 ?_
  rw [(ofs (5 * t)).2.1]
  refine wp_saload (pc := 637) dL_law_637 (by rw [hS1]; exact ofsI (by omega) hLs) ?_
  rw [hk1 2 (Or.inl rfl)]
  refine cv_LevelStoreLaw_97 (pc := 638) (m_log hX1 hM1 hl (I 2 (nI (5 * t + 1)).toNatClampNeg) (I 2 (nI (5 * t + 2)).toNatClampNeg)) rfl dL_law_638 (hX1.ok (by decide)) ⟨by decide, by decide, Nat.zero_le _, Nat.zero_le _⟩ (Nat.le_of_ble_eq_true rfl) (fun v h hp => ?_)
  obtain ⟨I2, SL2, rfl, rfl, hM2, hk2⟩ := hp.out
  refine wp_icmp_eq (pc := 641) (tgt := 682) dL_law_641 (by decide) (fun hc => ?_) (fun hc => ?_)
  · skip
    refine wp_room (by omega) (by omega) (hk n1 S1 R1 I2 ⟨(σ.logA (I 2 (nI (5 * t + 1)).toNatClampNeg) (I 2 (nI (5 * t + 2)).toNatClampNeg)).2, A1, P1, sp1, SL2, (hI.up ht), hC1.mono hk2, hM2, hS1, ?_⟩ _ ⟨rfl, rfl, rfl, rfl, trivial⟩)
    rw [hk2 2 (Or.inl (by decide)), hk1 2 (Or.inl rfl)]; exact hX2
  · exact absurd rfl hc
theorem law_count {mc ms : Nat} {post : ab_Po} (hLI : LI Ls xs t n S R I) (ht : t + 1 ≤ 512) (hL5 : 5 * t + 5 ≤ Ls) (hLs : Ls ≤ 2560) (hk : ∀ n S R I, LI Ls xs (t + 1) n S R I → ∀ L, ab_sub L [(0, .ref 2), (1, .ref 3), (2, .ref 39), (3, .int (nI (5 * t)))] → wp 13 494 mc ms ML_law 682 L [] (n, S, R, I) post) (L : List (Nat × Value)) (hL : ab_sub L [(0, .ref 2), (1, .ref 3), (2, .ref 39), (3, .int (nI (5 * t)))]) : wp 13 494 (mc + 650) (ms + 11600) ML_law 646 L [] (n, S, R, I) post := by
  refine wp_loc hL ?_
  obtain ⟨σ, A, P, sp, SL, hI, hC, hM, hS, hX2⟩ := hLI
  have b := hI.1
  obtain ⟨hl, hs, hnt, ht5, hV⟩ := b.a
  have hn : σ.num ≤ 60000 := by omega
  have hP := b.plc
  have hnf : (σ.FS 5).length ≤ σ.nf := b.n.1
  have hkB := b.kb
  have hu := b.uq
  have hid := hI.idle
  have hmo := b.mok
  have hjd := hI.jd
  have hpo := hI.po
  have hwk := hI.wk
  have hok : ∀ k, k < 4 → ∀ F ∈ σ.FS k, FOK σ.B F := fun k hk F hF => (b.f k (Or.inl hk) F hF).1
  have hsr := b.srt
  have hdi := b.l
  have hlg := b.lg
  have hsE := b.srE
  have hmx : ∀ e ∈ allE σ, e.2.1.toInt ≤ σ.num := fun e he => (b.e e he).2
  have h5 : σ.job = false → σ.FS 5 = [] := hI.nojob
  have hmk := hI.mk24
  first | refine wp_aload_n (pc := 646) dL_law_646 rfl ?_ | refine wp_aload_nN (pc := 646) dL_law_646 rfl ?_
  first | refine wp_aload_n (pc := 647) dL_law_647 rfl ?_ | refine wp_aload_nN (pc := 647) dL_law_647 rfl ?_
  refine wp_iload_n (pc := 648) dL_law_648 rfl ?_
  refine wp_iconst (pc := 649) (v := 1) dL_law_649 (by decide) ?_
  refine wp_iadd (pc := 650) dL_law_650 ?_
  rw [(ofs (5 * t)).1]
  refine wp_saload (pc := 651) dL_law_651 (by rw [hS]; exact ofsI (by omega) hLs) ?_
  refine cv_LevelStoreLaw_98 (pc := 652) (wp_room (mc := 650) (ms := 11600) (by decide) (by decide) (s_count hC hjd (I 2 (nI (5 * t + 1)).toNatClampNeg))) rfl dL_law_652 (hC.fx.ok (by decide)) ⟨by decide, by decide, Nat.le_add_left _ _, Nat.le_add_left _ _⟩ (Nat.le_of_ble_eq_true rfl) (fun v h hp => ?_)
  obtain ⟨n1, S1, R1, I1, A1, P1, sp1, rfl, rfl, he1, hC1, hk1⟩ := hp.out
  have hX1 := hC1.fx
  have hM1 := hM.mono hk1
  have hS1 : (S1 2).2 = Ls := by rw [he1.2.1 2 (by have := hC.fx.1; omega)]; exact hS
  first | refine wp_aload_n (pc := 655) dL_law_655 rfl ?_ | refine wp_aload_nN (pc := 655) dL_law_655 rfl ?_
  first | refine wp_aload_n (pc := 656) dL_law_656 rfl ?_ | refine wp_aload_nN (pc := 656) dL_law_656 rfl ?_
  refine wp_iload_n (pc := 657) dL_law_657 rfl ?_
  refine wp_iconst (pc := 658) (v := 1) dL_law_658 (by decide) ?_
  refine wp_iadd (pc := 659) dL_law_659 ?_
  rw [(ofs (5 * t)).1]
  refine wp_saload (pc := 660) dL_law_660 (by rw [hS1]; exact ofsI (by omega) hLs) ?_
  rw [hk1 2 (Or.inl rfl)]
  refine cv_LevelStoreLaw_101 (pc := 661) (m_count hX1 hM1 hjd (I 2 (nI (5 * t + 1)).toNatClampNeg)) rfl dL_law_661 (hX1.ok (by decide)) ⟨by decide, by decide, Nat.zero_le _, Nat.zero_le _⟩ (Nat.le_of_ble_eq_true rfl) (fun v h hp => ?_)
  obtain ⟨I2, SL2, rfl, rfl, hM2, hk2⟩ := hp.out
  refine wp_icmp_eq (pc := 664) (tgt := 682) dL_law_664 (by decide) (fun hc => ?_) (fun hc => ?_)
  · skip
    refine wp_room (by omega) (by omega) (hk n1 S1 R1 I2 ⟨(σ.count (I 2 (nI (5 * t + 1)).toNatClampNeg)).2, A1, P1, sp1, SL2, (hI.up ht), hC1.mono hk2, hM2, hS1, ?_⟩ _ ⟨rfl, rfl, rfl, rfl, trivial⟩)
    rw [hk2 2 (Or.inl (by decide)), hk1 2 (Or.inl rfl)]; exact hX2
  · exact absurd rfl hc
theorem law_check {mc ms : Nat} {post : ab_Po} (hLI : LI Ls xs t n S R I) (ht : t + 1 ≤ 512) (hL5 : 5 * t + 5 ≤ Ls) (hLs : Ls ≤ 2560) (hk : ∀ n S R I, LI Ls xs (t + 1) n S R I → ∀ L, ab_sub L [(0, .ref 2), (1, .ref 3), (2, .ref 39), (3, .int (nI (5 * t)))] → wp 13 494 mc ms ML_law 682 L [] (n, S, R, I) post) (L : List (Nat × Value)) (hL : ab_sub L [(0, .ref 2), (1, .ref 3), (2, .ref 39), (3, .int (nI (5 * t)))]) : wp 13 494 (mc + 650) (ms + 11600) ML_law 669 L [] (n, S, R, I) post := by
  refine wp_loc hL ?_
  obtain ⟨σ, A, P, sp, SL, hI, hC, hM, hS, hX2⟩ := hLI
  have b := hI.1
  obtain ⟨hl, hs, hnt, ht5, hV⟩ := b.a
  have hn : σ.num ≤ 60000 := by omega
  have hP := b.plc
  have hnf : (σ.FS 5).length ≤ σ.nf := b.n.1
  have hkB := b.kb
  have hu := b.uq
  have hid := hI.idle
  have hmo := b.mok
  have hjd := hI.jd
  have hpo := hI.po
  have hwk := hI.wk
  have hok : ∀ k, k < 4 → ∀ F ∈ σ.FS k, FOK σ.B F := fun k hk F hF => (b.f k (Or.inl hk) F hF).1
  have hsr := b.srt
  have hdi := b.l
  have hlg := b.lg
  have hsE := b.srE
  have hmx : ∀ e ∈ allE σ, e.2.1.toInt ≤ σ.num := fun e he => (b.e e he).2
  have h5 : σ.job = false → σ.FS 5 = [] := hI.nojob
  have hmk := hI.mk24
  first | refine wp_aload_n (pc := 669) dL_law_669 rfl ?_ | refine wp_aload_nN (pc := 669) dL_law_669 rfl ?_
  refine cv_LevelStoreLaw_102 (pc := 670) (wp_room (mc := 650) (ms := 11600) (by decide) (by decide) (s_check hC hok)) rfl dL_law_670 (hC.fx.ok (by decide)) ⟨by decide, by decide, Nat.le_add_left _ _, Nat.le_add_left _ _⟩ (Nat.le_of_ble_eq_true rfl) (fun v h hp => ?_)
  obtain ⟨n1, S1, R1, I1, A1, P1, sp1, rfl, rfl, he1, hC1, hk1⟩ := hp.out
  have hX1 := hC1.fx
  have hM1 := hM.mono hk1
  have hS1 : (S1 2).2 = Ls := by rw [he1.2.1 2 (by have := hC.fx.1; omega)]; exact hS
  first | refine wp_aload_n (pc := 673) dL_law_673 rfl ?_ | refine wp_aload_nN (pc := 673) dL_law_673 rfl ?_
  refine cv_LevelStoreLaw_105 (pc := 674) (m_check hX1 hM1 hmk hok) rfl dL_law_674 (hX1.ok (by decide)) ⟨by decide, by decide, Nat.zero_le _, Nat.zero_le _⟩ (Nat.le_of_ble_eq_true rfl) (fun v h hp => ?_)
  obtain ⟨I2, SL2, rfl, rfl, hM2, hk2⟩ := hp.out
  refine wp_icmp_eq (pc := 677) (tgt := 682) dL_law_677 (by decide) (fun hc => ?_) (fun hc => ?_)
  · skip
    refine wp_room (by omega) (by omega) (hk n1 S1 R1 I2 ⟨(σ.check).2, A1, P1, sp1, SL2, (hI.up ht), hC1.mono hk2, hM2, hS1, ?_⟩ _ ⟨rfl, rfl, rfl, rfl, trivial⟩)
    rw [hk2 2 (Or.inl (by decide)), hk1 2 (Or.inl rfl)]; exact hX2
  · exact absurd rfl hc
end LW
