/-! THE WORK -/
abbrev cSTATE : Int32 := -1000003
abbrev cFULL : Int32 := -1000004
abbrev cUNK : Int32 := -1000001
def OKD (σ : St) : Prop := σ.job = true ∧ σ.src.length ≤ 512 ∧ (σ.don < σ.src.length → ¬ σ.lo σ.don → ¬ σ.cut → σ.mak.length < 24) ∧ PLC σ.FS ∧ vk σ.mak ∧ cntF σ.FS ≤ 329 ∧ σ.tgt ≤ 3 ∧ (σ.FS 5).length ≤ σ.nf ∧ σ.don ≤ σ.src.length
noncomputable def St.work (σ : St) (x : Int32) : Int32 × St :=
  if x.toInt < 1 ∨ 500 < x.toInt then (cBAD, σ) else if σ.job = false ∨ σ.don = σ.src.length then (cSTATE, σ) else
  if (if (σ.works x.toInt.toNat).2 = true ∧ (σ.works x.toInt.toNat).1.don = (σ.works x.toInt.toNat).1.src.length then (σ.works x.toInt.toNat).1.endF else σ.works x.toInt.toNat).2 = true
  then (nI ((σ.works x.toInt.toNat).1.src.length - (σ.works x.toInt.toNat).1.don), (if (σ.works x.toInt.toNat).2 = true ∧ (σ.works x.toInt.toNat).1.don = (σ.works x.toInt.toNat).1.src.length then (σ.works x.toInt.toNat).1.endF else σ.works x.toInt.toNat).1)
  else (cFULL, (if (σ.works x.toInt.toNat).2 = true ∧ (σ.works x.toInt.toNat).1.don = (σ.works x.toInt.toNat).1.src.length then (σ.works x.toInt.toNat).1.endF else σ.works x.toInt.toNat).1.giveUp)
def St.wt (σ : St) : Nat := (σ.src.length - σ.don + σ.mak.length) / 8 + 1
section WK
variable {σ : St} {n : Nat} {S : ab_SH} {R : ab_RR} {I : ab_II} {A : AC} {P : Nat → List Nat} {sp : List FA}
theorem endF_F (h : σ.endF.2 = false) : σ.endF.1.FS = σ.FS ∧ σ.endF.1.nf = σ.nf := by
  by_cases hne : σ.mak = []
  · rw [endF_nil hne] at h ⊢; exact ⟨rfl, rfl⟩
  · cases hr : room σ.FS (enc σ.mak).length with
    | none => rw [endF_none hne hr]; exact ⟨rfl, rfl⟩
    | some p => rw [endF_some hne hr] at h; cases h
theorem doE_F (h : σ.doE.2 = false) : σ.doE.1.FS = σ.FS ∧ σ.doE.1.nf = σ.nf := by
  by_cases hlo : σ.lo σ.don
  · rw [doE_lo hlo] at h; cases h
  · by_cases hc : σ.cut
    · rw [doE_cut hlo hc] at h ⊢
      cases hb : (σ.J (σ.don + 1) σ.mak).endF.2 with
      | true => rw [hb] at h; cases h
      | false => exact endF_F (σ := σ.J (σ.don + 1) σ.mak) hb
    · rw [doE_no hlo hc] at h; cases h
theorem doE_don : σ.doE.1.don = σ.don + 1 ∧ σ.doE.1.src = σ.src ∧ σ.doE.1.job = σ.job ∧ σ.doE.1.tgt = σ.tgt ∧ σ.doE.1.pos = σ.pos ∧ σ.doE.1.JV = σ.JV ∧ σ.doE.1.1 = σ.1 := by
  by_cases hlo : σ.lo σ.don
  · rw [doE_lo hlo]; exact ⟨rfl, rfl, rfl, rfl, rfl, rfl, rfl⟩
  · by_cases hc : σ.cut
    · rw [doE_cut hlo hc]
      have := endF_same (σ := σ.J (σ.don + 1) σ.mak)
      cases hb : (σ.J (σ.don + 1) σ.mak).endF.2 with
      | true => exact ⟨rfl, this.2.1, this.2.2.1, this.2.2.2.1, this.2.2.2.2.1, this.2.2.2.2.2.1, this.2.2.2.2.2.2⟩
      | false => exact this
    · rw [doE_no hlo hc]; exact ⟨rfl, rfl, rfl, rfl, rfl, rfl, rfl⟩
theorem wt_step (hd : σ.don < σ.src.length) (h : σ.doE.2 = true) : σ.doE.1.wt + σ.ct ≤ σ.wt := by
  have hdd := (doE_don (σ := σ)).1
  have hsd := (doE_don (σ := σ)).2.1
  unfold St.wt
  rw [hdd, hsd]
  by_cases hlo : σ.lo σ.don
  · have : σ.ct = 0 := by unfold St.ct; rw [if_neg (fun z => z.1 hlo)]
    rw [this, show σ.doE.1.mak = σ.mak by rw [doE_lo hlo]; rfl]
    omega
  · by_cases hc : σ.cut
    · have : σ.ct = 1 := by unfold St.ct; rw [if_pos ⟨hlo, hc⟩]
      have h8 := hc.2.1
      rw [doE_cut hlo hc] at h ⊢
      cases hb : (σ.J (σ.don + 1) σ.mak).endF.2 with
      | true =>
        show (_ + [lfn σ.src σ.don].length) / 8 + 1 + σ.ct ≤ _
        simp only [List.length_singleton]
        omega
      | false => rw [hb] at h; cases h
    · have : σ.ct = 0 := by unfold St.ct; rw [if_neg (fun z => hc z.2)]
      rw [this, show σ.doE.1.mak = σ.mak ++ [lfn σ.src σ.don] by rw [doE_no hlo hc]; rfl, List.length_append, List.length_singleton]
      omega
theorem ct_le : σ.ct ≤ 1 := by unfold St.ct; split <;> omega
theorem RC.left (h : RC σ n S R I A P sp) (hs : σ.src.length ≤ 750) (hd : σ.don ≤ σ.src.length) : I 28 3 - I 27 9 = nI (σ.src.length - σ.don) := by
  obtain ⟨f, hf, -⟩ := h.sr
  rw [hf.1, h.cj.2.1]
  exact pk_sub hd
theorem works_don (N : Nat) : ∀ σ : St, σ.don ≤ σ.src.length → (σ.works N).1.don ≤ (σ.works N).1.src.length ∧ (σ.works N).1.src = σ.src ∧ (σ.works N).1.job = σ.job := by
  induction N with
  | zero => intro σ h; exact ⟨h, rfl, rfl⟩
  | succ N ih =>
    intro σ h
    unfold St.works
    by_cases hd : σ.don < σ.src.length
    · rw [if_pos hd]
      have h1 := doE_don (σ := σ)
      by_cases hb : σ.doE.2 = true
      · rw [if_pos hb]
        have := ih σ.doE.1 (by rw [h1.1, h1.2.1]; omega)
        exact ⟨this.1, by rw [this.2.1, h1.2.1], by rw [this.2.2, h1.2.2.1]⟩
      · rw [if_neg hb]
        exact ⟨by rw [h1.1, h1.2.1]; omega, h1.2.1, h1.2.2.1⟩
    · rw [if_neg hd]
      exact ⟨h, rfl, rfl⟩
theorem s_work_out {x y : Int32} {post : ab_Po} {mc ms : Nat} (hfin : wp 10 240 mc ms MX6_work 72 [(0, .ref 3), (1, .int x), (2, .int 0), (3, .int y)] [] (n, S, R, I) post) : wp 10 240 mc ms MX6_work 42 [(0, .ref 3), (1, .int x), (2, .int 0), (3, .int y)] [] (n, S, R, I) post := by
  refine wp_iload_n (pc := 42) dX6_work_42 rfl ?_
  refine wp_iload_n (pc := 43) dX6_work_43 rfl ?_
  refine wp_icmp_ge (pc := 44) (tgt := 72) dX6_work_44 (by decide) (fun hc => ?_) (fun hc => ?_)
  · skip
    exact wp_loc (L' := [(0, .ref 3), (1, .int x), (2, .int 0), (3, .int y)]) ⟨rfl, rfl, rfl, rfl, trivial⟩ hfin
  · skip
    refine wp_iload_n (pc := 47) dX6_work_47 rfl ?_
    refine wp_if_eq (pc := 48) (tgt := 72) dX6_work_48 (by decide) (fun hc => ?_) (fun hc => ?_)
    · skip
      exact wp_loc (L' := [(0, .ref 3), (1, .int x), (2, .int 0), (3, .int y)]) ⟨rfl, rfl, rfl, rfl, trivial⟩ hfin
    · exact absurd rfl hc
theorem s_work_loop (W : St → Prop) (hW : ∀ σ, W σ → OKD σ) (hWs : ∀ σ, W σ → σ.don < σ.src.length → σ.doE.2 = true → W σ.doE.1) (x : Int32) (post : ab_Po) :
    ∀ (d k : Nat) (σ : St) (y : Int32) (n : Nat) (S : ab_SH) (R : ab_RR) (I : ab_II) (A : AC) (P : Nat → List Nat) (sp : List FA) (mc ms : Nat), x.toInt = ((k + d : Nat) : Int) → y.toInt = k → W σ → RC σ n S R I A P sp → 5 * σ.wt + fC A ≤ mc → 80 * σ.wt + fS A ≤ ms →
    (∀ n' S' R' I' A' P' sp' mc' ms' y', ab_ex n S R n' S' R' → RC (σ.works d).1 n' S' R' I' A' P' sp' → kM I I' → ((σ.works d).2 = true → W (σ.works d).1 ∧ 5 + fC A' ≤ mc' ∧ 80 + fS A' ≤ ms') → ((σ.works d).2 = false → PLC (σ.works d).1.FS ∧ ((σ.works d).1.FS 5).length ≤ (σ.works d).1.nf ∧ fC A' ≤ mc' ∧ fS A' ≤ ms') → wp 10 240 mc' ms' MX6_work 72 [(0, .ref 3), (1, .int x), (2, .int (bI (σ.works d).2)), (3, .int y')] [] (n', S', R', I') post) →
    wp 10 240 mc ms MX6_work 42 [(0, .ref 3), (1, .int x), (2, .int 1), (3, .int y)] [] (n, S, R, I) post := by
  intro d
  induction d with
  | zero =>
    intro k σ y n S R I A P sp mc ms hx hy hw h hmc hms hpost
    have hwt : 1 ≤ σ.wt := Nat.le_add_left _ _
    refine wp_iload_n (pc := 42) dX6_work_42 rfl ?_
    refine wp_iload_n (pc := 43) dX6_work_43 rfl ?_
    refine wp_icmp_ge (pc := 44) (tgt := 72) dX6_work_44 (by decide) (fun hc => ?_) (fun hc => ?_)
    · skip
      refine wp_loc (L' := [(0, .ref 3), (1, .int x), (2, .int 1), (3, .int y)]) ⟨rfl, rfl, rfl, rfl, trivial⟩ ?_
      exact hpost n S R I A P sp mc ms y ab_ex.rf h kM.rf (fun _ => ⟨hw, by omega, by omega⟩) (fun q => by cases q)
    · omega
  | succ d ih =>
    intro k σ y n S R I A P sp mc ms hx hy hw h hmc hms hpost
    have hwt : 1 ≤ σ.wt := Nat.le_add_left _ _
    have hX := h.fx
    obtain ⟨hj, hs, hm, hP, hv, hc0, htg, hnf, hd⟩ := hW σ hw
    have hleft := h.left (by omega) hd
    have hlt : (nI (σ.src.length - σ.don)).toInt = ((σ.src.length - σ.don : Nat) : Int) := tI_n (by omega)
    have ex := tI_lt x
    refine wp_iload_n (pc := 42) dX6_work_42 rfl ?_
    refine wp_iload_n (pc := 43) dX6_work_43 rfl ?_
    refine wp_icmp_ge (pc := 44) (tgt := 72) dX6_work_44 (by decide) (fun hc => ?_) (fun hc => ?_)
    · omega
    · skip
      refine wp_iload_n (pc := 47) dX6_work_47 rfl ?_
      refine wp_if_eq (pc := 48) (tgt := 72) dX6_work_48 (by decide) (fun hc => ?_) (fun hc => ?_)
      · exact absurd hc (by decide)
      · skip
        first | refine wp_aload_n (pc := 51) dX6_work_51 rfl ?_ | refine wp_aload_nN (pc := 51) dX6_work_51 rfl ?_
        refine wp_getR (pc := 52) dX6_work_52 fl_LevelStore_50 (by first | assumption | exact Fx.ok (by assumption) (by decide)) rfl (by first | assumption | exact Fx.ref (by assumption) rfl) ?_
        refine cv_LevelStore_143 (pc := 55) (s_X2_left hX) rfl dX6_work_55 (by first | assumption | exact Fx.ok (by assumption) (by decide)) ⟨by decide, by decide, Nat.zero_le _, Nat.zero_le _⟩ (Nat.le_of_ble_eq_true rfl) (fun v h hp => ?_)
        obtain ⟨rfl, rfl⟩ := hp
        rw [hleft]
        refine wp_if_le (pc := 58) (tgt := 72) dX6_work_58 (by decide) (fun hc => ?_) (fun hc => ?_)
        · skip
          refine wp_loc (L' := [(0, .ref 3), (1, .int x), (2, .int 1), (3, .int y)]) ⟨rfl, rfl, rfl, rfl, trivial⟩ ?_
          have ew : σ.works (d + 1) = (σ, true) := by unfold St.works; rw [if_neg (by omega)]
          rw [ew] at hpost
          exact hpost n S R I A P sp mc ms y ab_ex.rf h kM.rf (fun _ => ⟨hw, by omega, by omega⟩) (fun q => by cases q)
        · have hlt2 : σ.don < σ.src.length := by omega
          have ct1 := ct_le (σ := σ)
          first | refine wp_aload_n (pc := 61) dX6_work_61 rfl ?_ | refine wp_aload_nN (pc := 61) dX6_work_61 rfl ?_
          have hb0 : dC σ A P ≤ mc ∧ dS σ A P ≤ ms := by
            constructor
            · unfold dC eC
              have e5 := al_le (len := (P 5).length) (cap := (A 5).2) (by have := h.len (k := 5) (by decide) (by decide); simp only [cntF] at hc0; omega) (h.lF.1 5 (by decide)).1.c10
              have e4 := al_le (len := 0) (cap := (A 4).2) (by decide) (h.lF.1 4 (by decide)).1.c10
              unfold fC pC at hmc
              split
              · exact Nat.zero_le _
              · split
                · split
                  · exact Nat.zero_le _
                  · split
                    · unfold c4
                      split <;> omega
                    · omega
                · exact Nat.zero_le _
            · unfold dS eS
              have e5 := al_le (len := (P 5).length) (cap := (A 5).2) (by have := h.len (k := 5) (by decide) (by decide); simp only [cntF] at hc0; omega) (h.lF.1 5 (by decide)).1.c10
              have e4 := al_le (len := 0) (cap := (A 4).2) (by decide) (h.lF.1 4 (by decide)).1.c10
              unfold fS pS at hms
              split
              · exact Nat.zero_le _
              · split
                · split
                  · exact Nat.zero_le _
                  · split
                    · unfold s4
                      split <;> omega
                    · omega
                · exact Nat.zero_le _
          refine cv_LevelStore_178 (pc := 62) (s_doE h hj hlt2 (by omega) (hm hlt2) hP hv hc0 htg) rfl dX6_work_62 (by first | assumption | exact Fx.ok (by assumption) (by decide)) ⟨by decide, by decide, hb0.1, hb0.2⟩ (Nat.le_of_ble_eq_true rfl) (fun v h hp => ?_)
          obtain ⟨rfl, n1, S1, R1, I1, A1, P1, sp1, rfl, he1, hRC1, hk1, hb1, hb2⟩ := hp
          refine wp_istore_n (pc := 65) dX6_work_65 (by decide) rfl ?_
          refine wp_iinc (pc := 66) dX6_work_66 rfl (by decide) rfl ?_
          refine wp_goto (pc := 69) (tgt := 42) dX6_work_69 (by decide) ?_
          have ey1 : (y + Int32.ofInt 1).toInt = ((k + 1 : Nat) : Int) := by rw [show Int32.ofInt 1 = 1 by decide, tI_add (by rw [tl_1]; omega) (by rw [tl_1]; omega), tl_1]; omega
          have hwk : σ.works (d + 1) = if σ.doE.2 = true then σ.doE.1.works d else (σ.doE.1, false) := by rw [St.works]; rw [if_pos hlt2]
          cases hb : σ.doE.2 with
          | true =>
            rw [hb] at hwk
            rw [if_pos rfl] at hwk
            have hst := wt_step hlt2 hb
            refine wp_loc (L' := [(0, .ref 3), (1, .int x), (2, .int 1), (3, .int (y + Int32.ofInt 1))]) ⟨rfl, rfl, rfl, rfl, trivial⟩ ?_
            refine ih (k + 1) σ.doE.1 _ n1 S1 R1 I1 A1 P1 sp1 _ _ (by omega) ey1 (hWs σ hw hlt2 hb) hRC1 (by omega) (by omega) (fun n' S' R' I' A' P' sp' mc' ms' y' g1 g2 g3 g4 g5 => ?_)
            rw [hwk] at hpost
            exact hpost n' S' R' I' A' P' sp' mc' ms' y' (he1.tr g1) g2 (hk1.tr g3) g4 g5
          | false =>
            rw [hb] at hwk
            rw [if_neg (by decide)] at hwk
            have hF := doE_F hb
            refine wp_loc (L' := [(0, .ref 3), (1, .int x), (2, .int 0), (3, .int (y + Int32.ofInt 1))]) ⟨rfl, rfl, rfl, rfl, trivial⟩ ?_
            rw [hwk] at hpost
            have hfin := hpost n1 S1 R1 I1 A1 P1 sp1 (mc - dC σ A P) (ms - dS σ A P) (y + Int32.ofInt 1) he1 hRC1 hk1 (fun q => by cases q) (fun _ => ⟨by rw [hF.1]; exact hP, by rw [hF.1, hF.2]; exact hnf, by omega, by omega⟩)
            clear hc
            exact s_work_out hfin
end WK
