/-! THE WORK KEEPS IT -/
section IW
variable {σ : St} {t : Nat}
theorem JB.to (h : JB σ) {σ' : St} (h1 : σ'.1 = σ.1) (hF : ∀ k, k < 4 → σ'.FS k = σ.FS k) (hj : σ'.job = σ.job) (ht : σ'.tgt = σ.tgt) (hp : σ'.pos = σ.pos) (hs : σ'.src = σ.src) (hd : σ'.don ≤ σ.src.length) (hsub : List.Sublist ((σ'.FS 5).flatMap FA.es ++ σ'.mak) (σ.src.take σ'.don)) (h5 : dis5 (σ'.FS 5)) : JB σ' := by
  obtain ⟨⟨a1, a2, a3, a4⟩, ⟨b1, b2, b3, b4, b5⟩, c, -, e, f, -⟩ := h
  have elf : σ'.lf = σ.lf := congrArg (fun q : Nat × Nat × Nat × Nat => q.1) hp
  have elt : σ'.lt = σ.lt := congrArg (fun q : Nat × Nat × Nat × Nat => q.2.1) hp
  have etf : σ'.tf = σ.tf := congrArg (fun q : Nat × Nat × Nat × Nat => q.2.2.1) hp
  have ett : σ'.tt = σ.tt := congrArg (fun q : Nat × Nat × Nat × Nat => q.2.2.2) hp
  have elog : σ'.log = σ.log := congrArg (fun q : List En × Nat × Nat × (Nat → Int32) => q.1) h1
  have f1 := hF σ.tgt (by omega)
  have f2 := hF (σ.tgt - 1) (by omega)
  refine ⟨⟨by rw [hj]; exact a1, by rw [hs]; exact a2, by rw [hs]; exact hd, by rw [hs]; exact a4⟩, ⟨by rw [ht]; exact b1, fun q => ?_, by rw [etf, ett]; exact b3, by rw [ett, ht, f1]; exact b4, fun q => ?_⟩, ?_, by rw [hs]; exact hsub, fun q => ?_, fun q => ?_, h5⟩
  · rw [elf, elt, ht, f2]; exact b2 (by rw [← ht]; exact q)
  · rw [hs, elog]; exact b5 (by rw [← ht]; exact q)
  · rw [hs]
    unfold srcL at c ⊢
    rw [ht, hs, elog, elf, elt, etf, ett, f1, f2]
    exact c
  · rw [hs, etf, hF 0 (by decide)]; exact e (by rw [← ht]; exact q)
  · rw [hs, ht, etf, ett, f1]; exact f (by rw [← ht]; exact q)
theorem src_at (hd : σ.don < σ.src.length) : σ.src[σ.don]? = some (lfn σ.src σ.don) := by unfold lfn; rw [List.getD_eq_getElem?_getD, List.getElem?_eq_getElem hd]; rfl
theorem lfn_get {es : List En} {i : Nat} (hi : i < es.length) : es[i]? = some (lfn es i) := by unfold lfn; rw [List.getD_eq_getElem?_getD, List.getElem?_eq_getElem hi]; rfl
theorem JB.key_le (h : JB σ) (hd : σ.don < σ.src.length) {e : En} (he : e ∈ σ.mak) : e.1.toInt ≤ (lfn σ.src (σ.don - 1)).1.toInt ∧ (lfn σ.src (σ.don - 1)).1.toInt ≤ (lfn σ.src σ.don).1.toInt := by
  obtain ⟨i, hi, hie⟩ := h.mak_mem he
  exact ⟨srt_lt h.1.2.2.2 (by omega) hie (lfn_get (by omega)), srt_lt h.1.2.2.2 (by omega) (lfn_get (by omega)) (src_at hd)⟩
/-- the row of the file being made, one entry on -/
theorem run_step (h : Wk t σ) (hd : σ.don < σ.src.length) (σ' : St) (ht : σ'.tgt = σ.tgt) (hs : σ'.src = σ.src) (hv : σ'.JV = σ.JV) (hdn : σ'.don = σ.don + 1) (hm : (σ.lo σ.don ∧ σ'.mak = σ.mak) ∨ (¬ σ.lo σ.don ∧ ¬ σ.cut ∧ σ'.mak = σ.mak ++ [lfn σ.src σ.don]) ∨ σ'.mak = [lfn σ.src σ.don]) : runOK σ' := by
  intro h0
  rw [ht] at h0
  obtain ⟨z, A, B, e, hB, hA, l1, l2, l3⟩ := h.2.2.2.2.2 h0
  have hJ := h.2.1
  have nv := nvw_le σ.JV (lfn σ.src (σ.don - 1)).2.1.toInt
  refine ⟨fun q => by omega, ?_⟩
  rw [hs, hv, hdn, Nat.add_sub_cancel]
  have hmk : ∀ x ∈ σ.mak, (lfn σ.src (σ.don - 1)).1.toInt ≠ (lfn σ.src σ.don).1.toInt → x.1.toInt ≠ (lfn σ.src σ.don).1.toInt := fun x hx hne => by
    have := hJ.key_le hd hx
    omega
  have mlen := h.mlen h0
  rcases hm with ⟨hlo, hm⟩ | ⟨hlo, hcut, hm⟩ | hm
  · rw [hm]
    by_cases hk : σ.don ≠ 0 ∧ (lfn σ.src (σ.don - 1)).1.toInt = (lfn σ.src σ.don).1.toInt
    · have hnum : (lfn σ.src σ.don).2.1.toInt ≤ (lfn σ.src (σ.don - 1)).2.1.toInt := by
        have := List.pairwise_iff_getElem.mp hJ.1.2.2.2 (σ.don - 1) σ.don (by omega) hd (by omega)
        rw [leE_iff] at this
        have e1 : σ.src[σ.don - 1]'(by omega) = lfn σ.src (σ.don - 1) := by have := lfn_get (es := σ.src) (i := σ.don - 1) (by omega); rw [List.getElem?_eq_getElem (by omega)] at this; exact Option.some.inj this
        have e2 : σ.src[σ.don] = lfn σ.src σ.don := by have := src_at hd; rw [List.getElem?_eq_getElem hd] at this; exact Option.some.inj this
        rw [e1, e2] at this
        omega
      have := nvw_mono σ.JV hnum
      exact ⟨A, B, e, fun x hx => (hB x hx).trans hk.2, fun x hx => by rw [← hk.2]; exact hA x hx, l1, l2, by omega⟩
    · refine ⟨σ.mak, [], by rw [List.append_nil], fun x hx => absurd hx List.not_mem_nil, fun x hx => ?_, by omega, fun q => absurd rfl q, by rw [List.length_nil]; omega⟩
      by_cases hd0 : σ.don = 0
      · rw [z hd0] at hx; exact absurd hx List.not_mem_nil
      · exact hmk x hx (fun q => hk ⟨hd0, q⟩)
  · rw [hm]
    have hcut' : σ.mak.length < 8 ∨ (gk σ.mak).toInt = (lfn σ.src σ.don).1.toInt := by
      by_cases q : σ.mak.length < 8
      · exact Or.inl q
      · exact Or.inr (Decidable.byContradiction fun q2 => hcut ⟨h0, by omega, q2⟩)
    by_cases hk : σ.don ≠ 0 ∧ (lfn σ.src (σ.don - 1)).1.toInt = (lfn σ.src σ.don).1.toInt
    · have hnum : (lfn σ.src σ.don).2.1.toInt ≤ (lfn σ.src (σ.don - 1)).2.1.toInt := by
        have := List.pairwise_iff_getElem.mp hJ.1.2.2.2 (σ.don - 1) σ.don (by omega) hd (by omega)
        rw [leE_iff] at this
        have e1 : σ.src[σ.don - 1]'(by omega) = lfn σ.src (σ.don - 1) := by have := lfn_get (es := σ.src) (i := σ.don - 1) (by omega); rw [List.getElem?_eq_getElem (by omega)] at this; exact Option.some.inj this
        have e2 : σ.src[σ.don] = lfn σ.src σ.don := by have := src_at hd; rw [List.getElem?_eq_getElem hd] at this; exact Option.some.inj this
        rw [e1, e2] at this
        omega
      have hseen : seenK (lfn σ.src) σ.JV σ.don := by
        refine Classical.byContradiction fun q => hlo (Or.inl ⟨fun ff => ?_, q⟩)
        rcases ff with ff | ff
        · exact hk.1 ff
        · exact ff hk.2
      have hnv := nvw_seen hseen hnum
      have hA7 : A.length ≤ 7 := by
        by_cases hBn : B = []
        · rw [hBn, List.append_nil] at e
          rcases hcut' with q | q
          · rw [e] at q; omega
          · by_cases hAn : A = []
            · rw [hAn]; exact Nat.zero_le _
            · exfalso
              obtain ⟨x, hx, hg⟩ := gk_mem hAn
              rw [e, hg] at q
              exact hA x hx (by rw [q, hk.2])
        · exact l2 hBn
      refine ⟨A, B ++ [lfn σ.src σ.don], by rw [e, List.append_assoc], fun x hx => ?_, fun x hx => by rw [← hk.2]; exact hA x hx, by omega, fun _ => hA7, by rw [List.length_append, List.length_singleton]; omega⟩
      rcases List.mem_append.mp hx with q | q
      · exact (hB x q).trans hk.2
      · rw [List.mem_singleton.mp q]
    · have hall : ∀ x ∈ σ.mak, x.1.toInt ≠ (lfn σ.src σ.don).1.toInt := fun x hx => by
        by_cases hd0 : σ.don = 0
        · rw [z hd0] at hx; exact absurd hx List.not_mem_nil
        · exact hmk x hx (fun q => hk ⟨hd0, q⟩)
      have h7 : σ.mak.length ≤ 7 := by
        rcases hcut' with q | q
        · omega
        · by_cases hmn : σ.mak = []
          · rw [hmn]; exact Nat.zero_le _
          · obtain ⟨x, hx, hg⟩ := gk_mem hmn
            rw [hg] at q
            exact absurd q (hall x hx)
      exact ⟨σ.mak, [lfn σ.src σ.don], rfl, fun x hx => by rw [List.mem_singleton.mp hx], hall, by omega, fun _ => h7, by rw [List.length_singleton]; omega⟩
  · rw [hm]
    exact ⟨[], [lfn σ.src σ.don], rfl, fun x hx => by rw [List.mem_singleton.mp hx], fun x hx => absurd hx List.not_mem_nil, Nat.zero_le _, fun _ => Nat.zero_le _, by rw [List.length_singleton]; omega⟩
theorem lk_app {a b : List En} (h : a ≠ []) : lk (a ++ b) = lk a := by
  cases a with
  | nil => exact absurd rfl h
  | cons x a => rfl
theorem room_fit {FS : Nat → List FA} {len p : Nat} (h : room FS len = some p) : Fit FS len p := by
  have := room_is FS len
  rw [h] at this
  rcases this with ⟨q, e, hf, -⟩ | ⟨e, -⟩
  · cases e; exact hf
  · cases e
theorem Wk.nfb (h : Wk t σ) : σ.nf < 1000000 := by
  have h5 := h.2.1.f5
  have hl := h.2.1.len h.1
  have hb := big8 (σ.FS 5)
  have hz : (σ.FS 5).countP sm = 0 := List.countP_eq_zero.mpr (fun F hF q => by have := h.2.2.1 F hF; unfold sm at q; simp at q; omega)
  have hd := h.2.1.1.2.2.1
  have hn := h.1.n.2.1
  have ha := h.1.a
  unfold n5 at hn
  omega
/-- a file ends while the work goes on, or at its end -/
theorem Wk.file (h : Wk t σ) (hne : σ.mak ≠ []) {p : Nat} (hr : room σ.FS (enc σ.mak).length = some p) (d : Nat) (m : List En) (hd : d ≤ σ.src.length) (hsub : List.Sublist ((σ.FS 5).flatMap FA.es ++ σ.mak ++ m) (σ.src.take d)) :
    Base t ((σ.F (va_up σ.FS 5 (σ.FS 5 ++ [(nI σ.nf, nI p, nI (enc σ.mak).length, σ.mak)])) (lay21 σ.B p (enc σ.mak)) (σ.nf + 1)).J d m) ∧ JB ((σ.F (va_up σ.FS 5 (σ.FS 5 ++ [(nI σ.nf, nI p, nI (enc σ.mak).length, σ.mak)])) (lay21 σ.B p (enc σ.mak)) (σ.nf + 1)).J d m) := by
  refine ⟨h.1.newF (room_fit hr) h.vk h.2.1.mak_srt hne h.nfb, ?_⟩
  have e5 : St.FS ((σ.F (va_up σ.FS 5 (σ.FS 5 ++ [(nI σ.nf, nI p, nI (enc σ.mak).length, σ.mak)])) (lay21 σ.B p (enc σ.mak)) (σ.nf + 1)).J d m) 5 = σ.FS 5 ++ [(nI σ.nf, nI p, nI (enc σ.mak).length, σ.mak)] := by show va_up σ.FS 5 (σ.FS 5 ++ [(nI σ.nf, nI p, nI (enc σ.mak).length, σ.mak)]) 5 = _; rw [up_at]
  refine h.2.1.to rfl (fun k hk => up_ne (by omega)) rfl rfl rfl rfl hd ?_ ?_
  · rw [e5, List.flatMap_append]
    show List.Sublist (_ ++ [(nI σ.nf, nI p, nI (enc σ.mak).length, σ.mak)].flatMap FA.es ++ m) _
    rw [show [(nI σ.nf, nI p, nI (enc σ.mak).length, σ.mak)].flatMap FA.es = σ.mak by simp [FA.es]]
    exact hsub
  · rw [e5]
    intro a b F G hab hF hG
    have hbl := (List.getElem?_eq_some_iff.mp hG).1
    rw [List.length_append, List.length_singleton] at hbl
    have hal : a < (σ.FS 5).length := by omega
    rw [List.getElem?_append_left hal] at hF
    by_cases hb : b < (σ.FS 5).length
    · rw [List.getElem?_append_left hb] at hG
      exact h.2.1.2.2.2.2.2.2 a b F G hab hF hG
    · have hbb : b = (σ.FS 5).length := by omega
      subst hbb
      rw [List.getElem?_append_right (Nat.le_refl _)] at hG
      simp at hG
      rw [← hG]
      have hn5 : σ.FS 5 ≠ [] := fun q => by rw [q] at hal; exact absurd hal (by simp)
      exact (h.2.2.2.2.1 hn5).2 F (List.mem_of_getElem? hF)
theorem Wk.step (h : Wk t σ) (hd : σ.don < σ.src.length) (hok : σ.doE.2 = true) : Wk t σ.doE.1 := by
  have hJ := h.2.1
  have hts : σ.src.take (σ.don + 1) = σ.src.take σ.don ++ [lfn σ.src σ.don] := td_succ (src_at hd)
  by_cases hlo : σ.lo σ.don
  · rw [doE_lo hlo]
    exact ⟨h.1, hJ.to rfl (fun _ _ => rfl) rfl rfl rfl rfl hd (by show List.Sublist _ (σ.src.take (σ.don + 1)); rw [hts]; exact hJ.2.2.2.1.trans (List.sublist_append_left _ _)) hJ.2.2.2.2.2.2, h.2.2.1, h.2.2.2.1, h.2.2.2.2.1, run_step h hd _ rfl rfl rfl rfl (Or.inl ⟨hlo, rfl⟩)⟩
  · by_cases hcut : σ.cut
    · have hE := doE_cut hlo hcut
      have hne : σ.mak ≠ [] := fun q => by have := hcut.2.1; rw [q] at this; exact absurd this (by decide)
      cases hr : room σ.FS (enc σ.mak).length with
      | none =>
        rw [endF_none (σ := σ.J (σ.don + 1) σ.mak) hne hr] at hE
        rw [hE] at hok
        cases hok
      | some p =>
        rw [endF_some (σ := σ.J (σ.don + 1) σ.mak) hne hr] at hE
        rw [if_pos rfl] at hE
        rw [hE]
        have hsub : List.Sublist ((σ.FS 5).flatMap FA.es ++ σ.mak ++ [lfn σ.src σ.don]) (σ.src.take (σ.don + 1)) := by rw [hts]; exact hJ.2.2.2.1.append (List.Sublist.refl _)
        obtain ⟨hB, hJ'⟩ := h.file hne hr (σ.don + 1) [lfn σ.src σ.don] hd hsub
        have e5 : va_up σ.FS 5 (σ.FS 5 ++ [(nI σ.nf, nI p, nI (enc σ.mak).length, σ.mak)]) 5 = σ.FS 5 ++ [(nI σ.nf, nI p, nI (enc σ.mak).length, σ.mak)] := up_at ..
        have hgk : (gk σ.mak).toInt < (lfn σ.src σ.don).1.toInt := by
          obtain ⟨x, hx, hg⟩ := gk_mem hne
          have := hJ.key_le hd hx
          have := hcut.2.2
          rw [hg] at *
          omega
        refine ⟨hB, hJ', fun F hF => ?_, fun q => absurd q hcut.1, fun _ => ⟨(by intro q; cases q), fun F hF => ?_⟩, run_step h hd _ rfl rfl rfl rfl (Or.inr (Or.inr rfl))⟩
        · have hF : F ∈ va_up σ.FS 5 (σ.FS 5 ++ [(nI σ.nf, nI p, nI (enc σ.mak).length, σ.mak)]) 5 := hF
          rw [e5] at hF
          rcases List.mem_append.mp hF with q | q
          · exact h.2.2.1 F q
          · rw [List.mem_singleton.mp q]; exact hcut.2.1
        · have hF : F ∈ va_up σ.FS 5 (σ.FS 5 ++ [(nI σ.nf, nI p, nI (enc σ.mak).length, σ.mak)]) 5 := hF
          rw [e5] at hF
          show (gk F.es).toInt < (lfn σ.src σ.don).1.toInt
          rcases List.mem_append.mp hF with q | q
          · have hn5 : σ.FS 5 ≠ [] := fun z => by rw [z] at q; exact absurd q List.not_mem_nil
            have h1 := (h.2.2.2.2.1 hn5).2 F q
            obtain ⟨x, hx, hl⟩ := lk_mem hne
            have := srt_kB hJ.mak_srt x hx
            rw [hl] at h1
            omega
          · rw [List.mem_singleton.mp q]; exact hgk
    · rw [doE_no hlo hcut]
      refine ⟨h.1, hJ.to rfl (fun _ _ => rfl) rfl rfl rfl rfl hd ?_ hJ.2.2.2.2.2.2, h.2.2.1, h.2.2.2.1, fun q => ⟨by intro z; exact absurd z (by simp [St.mak, St.J]), fun F hF => ?_⟩, run_step h hd _ rfl rfl rfl rfl (Or.inr (Or.inl ⟨hlo, hcut, rfl⟩))⟩
      · show List.Sublist ((σ.FS 5).flatMap FA.es ++ (σ.mak ++ [lfn σ.src σ.don])) (σ.src.take (σ.don + 1))
        rw [hts, ← List.append_assoc]
        exact hJ.2.2.2.1.append (List.Sublist.refl _)
      · obtain ⟨q1, q2⟩ := h.2.2.2.2.1 q
        show (gk F.es).toInt < (lk (σ.mak ++ [lfn σ.src σ.don])).toInt
        rw [lk_app q1]
        exact q2 F hF
theorem Wk.fin (h : Wk t σ) (hd : σ.don = σ.src.length) (hok : σ.endF.2 = true) : Dn t σ.endF.1 := by
  have hz : (σ.FS 5).countP sm = 0 := List.countP_eq_zero.mpr (fun F hF q => by have := h.2.2.1 F hF; unfold sm at q; simp at q; omega)
  by_cases hne : σ.mak = []
  · rw [endF_nil hne]
    exact ⟨h.1, h.2.1, hd, hne, (by show (σ.FS 5).countP sm ≤ 1; omega), fun q => (by show (σ.FS 5).length ≤ 1; rw [h.2.2.2.1 q]; exact Nat.zero_le _)⟩
  · cases hr : room σ.FS (enc σ.mak).length with
    | none => rw [endF_none hne hr] at hok; cases hok
    | some p =>
      rw [endF_some hne hr]
      obtain ⟨hB, hJ'⟩ := h.file hne hr σ.don [] (by omega) (by rw [List.append_nil]; exact h.2.1.2.2.2.1)
      have e5 : St.FS ((σ.F (va_up σ.FS 5 (σ.FS 5 ++ [(nI σ.nf, nI p, nI (enc σ.mak).length, σ.mak)])) (lay21 σ.B p (enc σ.mak)) (σ.nf + 1)).J σ.don []) 5 = σ.FS 5 ++ [(nI σ.nf, nI p, nI (enc σ.mak).length, σ.mak)] := by show va_up σ.FS 5 (σ.FS 5 ++ [(nI σ.nf, nI p, nI (enc σ.mak).length, σ.mak)]) 5 = _; rw [up_at]
      refine ⟨hB, hJ', hd, rfl, ?_, fun q => ?_⟩
      · rw [e5, List.countP_append, hz]
        have := List.countP_le_length (p := sm) (l := [(nI σ.nf, nI p, nI (enc σ.mak).length, σ.mak)])
        rw [List.length_singleton] at this
        omega
      · rw [e5, h.2.2.2.1 q]; exact Nat.le_refl _
theorem Wk.works (N : Nat) : ∀ {σ : St}, Wk t σ → (σ.works N).2 = true → Wk t (σ.works N).1 := by
  induction N with
  | zero => intro σ h _; exact h
  | succ N ih =>
    intro σ h hok
    have e : σ.works (N + 1) = if σ.don < σ.src.length then (if σ.doE.2 then St.works N σ.doE.1 else (σ.doE.1, false)) else (σ, true) := rfl
    rw [e] at hok ⊢
    by_cases hd : σ.don < σ.src.length
    · rw [if_pos hd] at hok ⊢
      by_cases hb : σ.doE.2 = true
      · rw [if_pos hb] at hok ⊢
        exact ih (h.step hd hb) hok
      · rw [if_neg hb] at hok; cases hok
    · rw [if_neg hd]; exact h
/-- a job that is given up: the state without it -/
theorem Base.giveUp (h : Base t σ) : Base t σ.giveUp := by
  have o : ∀ k, k ≠ 5 → σ.giveUp.FS k = σ.FS k := fun k hk => up_ne hk
  have z5 : σ.giveUp.FS 5 = [] := by show va_up σ.FS 5 [] 5 = []; rw [up_at]
  have e5 : n5 σ.giveUp = 0 := by unfold n5; rw [z5]; rfl
  have enf : σ.giveUp.nf = σ.nf - n5 σ := rfl
  obtain ⟨n1, n2, n3, n4, n6⟩ := h.n
  refine ⟨h.1, h.e, h.u, fun k hk F hF => ?_, fun j => ?_, fun k h1 h2 => ?_, ⟨?_, ?_, fun k hk F hF => ?_, fun i F hF => ?_, n6⟩, h.s⟩
  · by_cases h5 : k = 5
    · subst h5; rw [z5] at hF; exact absurd hF List.not_mem_nil
    · rw [o k h5] at hF; exact h.f k hk F hF
  · have hc := h.c j
    rw [o 0 (by decide), o 1 (by decide), o 2 (by decide), o 3 (by decide), z5, List.countP_nil]
    omega
  · have : ldis σ k := h.l k h1 h2
    intro a b F G hab hF hG
    rw [o k (by omega)] at hF hG
    exact this a b F G hab hF hG
  · rw [e5]; exact Nat.zero_le _
  · rw [e5, enf, Nat.sub_zero]; exact n2
  · rw [e5, enf, Nat.sub_zero]
    rw [o k (by omega)] at hF
    exact n3 k hk F hF
  · rw [z5] at hF; simp at hF
end IW
