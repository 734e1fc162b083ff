/-! INSTALL KEEPS IT -/
section IQ
variable {σ : St} {t : Nat}
theorem ins_cnt (c : List FA → Nat) (hadd : ∀ a b, c (a ++ b) = c a + c b) (hp : posOK σ) : c (σ.insF 0) + c (σ.insF 1) + c (σ.insF 2) + c (σ.insF 3) + (c (slice (σ.FS σ.tgt) σ.tf σ.tt) + (if σ.tgt = 0 then 0 else c (slice (σ.FS (σ.tgt - 1)) σ.lf σ.lt))) = c (σ.FS 0) + c (σ.FS 1) + c (σ.FS 2) + c (σ.FS 3) + c (σ.FS 5) := by
  have h1 := cut_cnt c hadd (σ.FS σ.tgt) (σ.FS 5) hp.2.2.1
  have c0 : c [] = 0 := by have := hadd [] []; rw [List.append_nil] at this; omega
  have ht := hp.1
  have eT := insF_t (σ := σ) ht
  by_cases h0 : σ.tgt = 0
  · rw [if_pos h0]
    have o : ∀ k, k ≠ 0 → k ≠ 5 → σ.insF k = σ.FS k := fun k q1 q2 => insF_o q2 (by omega) (Or.inl h0)
    rw [o 1 (by decide) (by decide), o 2 (by decide) (by decide), o 3 (by decide) (by decide)]
    rw [← eT] at h1
    rw [h0] at h1 ⊢
    omega
  · rw [if_neg h0]
    have h2 := cut_cnt c hadd (σ.FS (σ.tgt - 1)) [] (hp.2.1 h0).1
    rw [← insF_s ht h0, c0] at h2
    rw [← eT] at h1
    have o : ∀ k, k ≠ σ.tgt → k ≠ σ.tgt - 1 → k ≠ 5 → σ.insF k = σ.FS k := fun k q1 q2 q3 => insF_o q3 q1 (Or.inr q2)
    rcases (show σ.tgt = 1 ∨ σ.tgt = 2 ∨ σ.tgt = 3 by omega) with q | q | q
    · rw [o 2 (by omega) (by omega) (by decide), o 3 (by omega) (by omega) (by decide)]
      rw [q] at h1 h2 ⊢
      simp only [Nat.reduceSub] at h2 ⊢
      omega
    · rw [o 0 (by omega) (by omega) (by decide), o 3 (by omega) (by omega) (by decide)]
      rw [q] at h1 h2 ⊢
      simp only [Nat.reduceSub] at h2 ⊢
      omega
    · rw [o 0 (by omega) (by omega) (by decide), o 1 (by omega) (by omega) (by decide)]
      rw [q] at h1 h2 ⊢
      simp only [Nat.reduceSub] at h2 ⊢
      omega
theorem ins_mem (ht : σ.tgt ≤ 3) {k : Nat} {F : FA} (hF : F ∈ σ.insF k) : F ∈ σ.FS k ∨ (k = σ.tgt ∧ F ∈ σ.FS 5) := by
  by_cases h5 : k = 5
  · subst h5; rw [insF_5] at hF; exact absurd hF List.not_mem_nil
  · by_cases h1 : k = σ.tgt
    · subst h1
      rw [insF_t ht] at hF
      unfold cutF at hF
      rcases List.mem_append.mp hF with q | q
      · rcases List.mem_append.mp q with q | q
        · exact Or.inl (List.mem_of_mem_take q)
        · exact Or.inr ⟨rfl, q⟩
      · exact Or.inl (List.mem_of_mem_drop q)
    · by_cases h2 : σ.tgt = 0 ∨ k ≠ σ.tgt - 1
      · rw [insF_o h5 h1 h2] at hF; exact Or.inl hF
      · have h0 : σ.tgt ≠ 0 := fun q => h2 (Or.inl q)
        have hk1 : k = σ.tgt - 1 := Decidable.byContradiction fun q => h2 (Or.inr q)
        subst hk1
        rw [insF_s ht h0] at hF
        unfold cutF at hF
        rw [List.append_nil] at hF
        rcases List.mem_append.mp hF with q | q
        · exact Or.inl (List.mem_of_mem_take q)
        · exact Or.inl (List.mem_of_mem_drop q)
theorem n5_le (h : Dn t σ) : n5 σ ≤ 512 := by
  have hl := h.2.1.len h.1
  have hf := h.2.1.f5
  have hd := h.2.1.1.2.2.1
  have key : ∀ fs : List FA, (∀ F ∈ fs, F.es ≠ []) → fs.length ≤ (fs.flatMap FA.es).length := by
    intro fs
    induction fs with
    | nil => intro _; exact Nat.zero_le _
    | cons F fs ih =>
      intro hq
      have h1 := ih (fun G hG => hq G (List.mem_cons_of_mem _ hG))
      have h2 := List.length_pos_iff.mpr (hq F List.mem_cons_self)
      rw [List.flatMap_cons, List.length_append, List.length_cons]
      omega
  have := key (σ.FS 5) (fun F hF => (h.1.f 5 (Or.inr rfl) F hF).1.2.1)
  unfold n5
  omega
theorem Inv.install (h : Inv t σ) (ht : t + 1 ≤ 512) : Inv (t + 1) σ.install.2 := by
  unfold St.install
  by_cases hc : σ.job = true ∧ σ.don = σ.src.length
  · rw [if_pos hc]
    have hdn : Dn t σ ∧ 3 * nSm σ.FS + 2 ≤ t := by
      rcases h.2 with q | ⟨q, -⟩ | q
      · rw [q.1] at hc; cases hc.1
      · omega
      · exact q
    obtain ⟨hdn, hph⟩ := hdn
    show Inv (t + 1) σ.insD.fin
    obtain ⟨hB, hJ, hd, hmk, hsm, h51⟩ := id hdn
    have hp := hJ.2.1
    have htg := hp.1
    obtain ⟨a1, a2, a3, a4, a5⟩ := hB.a
    obtain ⟨n1, n2, n3, n4, n6⟩ := hB.n
    have hn5 := n5_le hdn
    have hsub5 : List.Sublist ((σ.FS 5).flatMap FA.es) σ.src := ((List.sublist_append_left _ _).trans hJ.2.2.2.1).trans (List.take_sublist _ _)
    have hm5 : ∀ F ∈ σ.FS 5, ∀ e ∈ F.es, e ∈ σ.src := fun F hF e he => hsub5.subset (List.mem_flatMap.mpr ⟨F, hF, he⟩)
    have eF : ∀ k, σ.insD.fin.FS k = σ.insF k := fun _ => rfl
    have e5 : n5 σ.insD.fin = 0 := by unfold n5; rw [eF, insF_5]; rfl
    have enf : σ.insD.fin.nf = σ.nf := rfl
    have elog : σ.insD.fin.log = if σ.tgt = 0 then σ.log.drop σ.src.length else σ.log := rfl
    have hlogm : ∀ e ∈ σ.insD.fin.log, e ∈ σ.log := fun e he => by
      rw [elog] at he
      split at he
      · exact List.mem_of_mem_drop he
      · exact he
    have hallm : ∀ e ∈ allE σ.insD.fin, e ∈ allE σ := fun e he => by
      rcases List.mem_append.mp he with q | q
      · exact List.mem_append_left _ (hlogm e q)
      · obtain ⟨F, hF, hFe⟩ := List.mem_flatMap.mp q
        have hx : ∃ k, k < 4 ∧ F ∈ σ.insF k := by
          simp only [eF, List.mem_append] at hF
          rcases hF with ((q | q) | q) | q
          · exact ⟨0, by decide, q⟩
          · exact ⟨1, by decide, q⟩
          · exact ⟨2, by decide, q⟩
          · exact ⟨3, by decide, q⟩
        obtain ⟨k, hk, hFk⟩ := hx
        rcases ins_mem htg hFk with q | ⟨-, q⟩
        · exact allE_mem hk q hFe
        · exact hJ.mem (hm5 F q e hFe)
    have hnfb : (((σ.nf - n5 σ) + n5 σ : Nat)) = σ.nf := by omega
    have num5 : ∀ F ∈ σ.FS 5, ((σ.nf - n5 σ : Nat) : Int) ≤ F.1.toInt ∧ F.1.toInt < (σ.nf : Int) := fun F hF => by
      obtain ⟨i, hi⟩ := List.getElem?_of_mem hF
      have hl := (List.getElem?_eq_some_iff.mp hi).1
      rw [n4 i F hi, tI_n (by unfold n5 at *; omega)]
      unfold n5 at *
      omega
    have key : Base (t + 1) σ.insD.fin := by
      refine ⟨⟨?_, ?_, by show σ.num ≤ t + 1; omega, ht, a5⟩, fun e he => hB.e e (hallm e he), fun v => ?_, fun k hk F hF => ?_, fun j => ?_, fun k h1 h2 => ?_, ⟨by rw [e5]; exact Nat.zero_le _, by rw [e5, enf]; omega, fun k hk F hF => ?_, fun i F hF => ?_, ?_⟩, ?_⟩
      · rw [elog]; split
        · rw [List.length_drop]; omega
        · exact a1
      · show (if σ.tgt = 0 then σ.syn - σ.src.length else σ.syn) ≤ σ.insD.fin.log.length
        rw [elog]; split
        · rw [List.length_drop]; omega
        · exact a2
      · have hcnt := ins_cnt (cE (nu v)) (cE_app (nu v)) hp
        have hu := hB.u v
        rw [allE_cnt] at hu ⊢
        rw [eF, eF, eF, eF, elog]
        have s5 : cE (nu v) (σ.FS 5) ≤ σ.src.countP (nu v) := hsub5.countP_le
        have sp := hJ.2.2.1.countP_eq (nu v)
        unfold srcL at sp
        by_cases h0 : σ.tgt = 0
        · rw [if_pos h0] at hcnt sp ⊢
          have e1 : σ.log.countP (nu v) = (σ.log.take σ.src.length).countP (nu v) + (σ.log.drop σ.src.length).countP (nu v) := by
            conv => lhs; rw [← List.take_append_drop σ.src.length σ.log]
            rw [List.countP_append]
          omega
        · rw [if_neg h0] at hcnt sp ⊢
          rw [List.countP_append] at sp
          have e1 : ((slice (σ.FS (σ.tgt - 1)) σ.lf σ.lt).flatMap FA.es).countP (nu v) = cE (nu v) (slice (σ.FS (σ.tgt - 1)) σ.lf σ.lt) := rfl
          have e2 : ((slice (σ.FS σ.tgt) σ.tf σ.tt).flatMap FA.es).countP (nu v) = cE (nu v) (slice (σ.FS σ.tgt) σ.tf σ.tt) := rfl
          omega
      · rw [eF] at hF
        show FOK σ.B F ∧ srtE F.es
        rcases ins_mem htg hF with q | ⟨-, q⟩
        · exact hB.f k hk F q
        · exact hB.f 5 (Or.inr rfl) F q
      · have hcnt := ins_cnt (fun l => l.countP (cov j)) (fun a b => List.countP_append ..) hp
        have := hB.c j
        rw [eF, eF, eF, eF, eF, insF_5, List.countP_nil]
        omega
      · have hpw : ∀ k, 1 ≤ k → k < 4 → (σ.FS k).Pairwise (fun F G : FA => (gk F.es).toInt < (lk G.es).toInt) := fun k q1 q2 => pw_iff.mp (hB.l k q1 q2)
        refine pw_iff.mpr ?_
        rw [eF]
        by_cases h1' : k = σ.tgt
        · subst h1'
          rw [insF_t htg]
          unfold cutF
          have hq := hpw σ.tgt h1 h2
          have kb := hJ.2.2.2.2.2.1 (by omega)
          rw [List.pairwise_append, List.pairwise_append]
          refine ⟨⟨hq.sublist (List.take_sublist _ _), pw_iff.mp hJ.2.2.2.2.2.2, fun G hG F hF => ?_⟩, hq.sublist (List.drop_sublist _ _), fun G hG F hF => ?_⟩
          · obtain ⟨a, ha⟩ := List.getElem?_of_mem hG
            rw [List.getElem?_take] at ha
            split at ha
            · obtain ⟨e, he, hl⟩ := lk_mem (hB.f 5 (Or.inr rfl) F hF).1.2.1
              rw [hl]
              exact (kb e (hm5 F hF e he)).1 a G ‹_› ha
            · cases ha
          · obtain ⟨b, hb⟩ := List.getElem?_of_mem hF
            rw [List.getElem?_drop] at hb
            rcases List.mem_append.mp hG with q | q
            · obtain ⟨a, ha⟩ := List.getElem?_of_mem q
              rw [List.getElem?_take] at ha
              split at ha
              · exact hB.l σ.tgt h1 h2 a _ G F (by have := hp.2.2.1; omega) ha hb
              · cases ha
            · obtain ⟨e, he, hl⟩ := gk_mem (hB.f 5 (Or.inr rfl) G q).1.2.1
              rw [hl]
              exact (kb e (hm5 G q e he)).2 _ F (by omega) hb
        · by_cases h2' : σ.tgt = 0 ∨ k ≠ σ.tgt - 1
          · rw [insF_o (by omega) h1' h2']; exact hpw k h1 h2
          · have h0 : σ.tgt ≠ 0 := fun q => h2' (Or.inl q)
            have hk1 : k = σ.tgt - 1 := Decidable.byContradiction fun q => h2' (Or.inr q)
            subst hk1
            rw [insF_s htg h0]
            exact (hpw _ h1 h2).sublist (cut_sub (hp.2.1 h0).1)
      · rw [e5, enf, Nat.sub_zero]
        rw [eF] at hF
        rcases ins_mem htg hF with q | ⟨-, q⟩
        · have := n3 k hk F q; omega
        · have := num5 F q; omega
      · rw [eF, insF_5] at hF; simp at hF
      · have hq : (σ.FS 0).Pairwise (fun F G : FA => F.1.toInt < G.1.toInt) := pw_iff.mp n6
        refine pw_iff.mpr ?_
        rw [eF]
        by_cases h0 : σ.tgt = 0
        · have eT := insF_t (σ := σ) htg
          have etf := (hJ.2.2.2.2.1 h0).2
          rw [h0] at eT
          have h3 := hp.2.2.1
          have e1 : σ.insF 0 = σ.FS 0 ++ σ.FS 5 := by
            rw [eT]
            unfold cutF
            rw [List.take_of_length_le (by omega), List.drop_of_length_le (by omega), List.append_nil]
          rw [e1, List.pairwise_append]
          refine ⟨hq, pw_iff.mp (fun a b F G hab hF hG => ?_), fun F hF G hG => ?_⟩
          · have hl := (List.getElem?_eq_some_iff.mp hG).1
            have := h51 h0
            omega
          · have := n3 0 (by decide) F hF
            have := num5 G hG
            omega
        · by_cases h1 : σ.tgt = 1
          · have e1 := insF_s (σ := σ) htg h0
            have hlf := (hp.2.1 h0).1
            rw [h1] at e1
            simp only [Nat.reduceSub] at e1
            rw [e1]
            exact hq.sublist (cut_sub hlf)
          · rw [insF_o (by decide) (by omega) (Or.inr (by omega))]; exact hq
      · have hcnt := ins_cnt (fun l => l.countP sm) (fun a b => List.countP_append ..) hp
        show 3 * ((σ.insF 0).countP sm + (σ.insF 1).countP sm + (σ.insF 2).countP sm + (σ.insF 3).countP sm) ≤ t + 1
        unfold nSm at hph
        omega
    exact ⟨key, Or.inl ⟨rfl, rfl, rfl, rfl, insF_5 (σ := σ)⟩⟩
  · rw [if_neg hc]; exact h.up ht
end IQ
