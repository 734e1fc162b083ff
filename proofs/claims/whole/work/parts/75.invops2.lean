/-! MERGE, WORK, INSTALL KEEP IT -/
theorem mlo_le : ∀ (fs : List FA) (m : Int32), (fs.foldl mnF m).toInt ≤ m.toInt ∧ ∀ F ∈ fs, (fs.foldl mnF m).toInt ≤ (lk F.es).toInt
  | [], m => ⟨Int.le_refl _, fun F hF => absurd hF List.not_mem_nil⟩
  | G :: fs, m => by
    obtain ⟨h1, h2⟩ := mlo_le fs (mnF m G)
    have q : (mnF m G).toInt ≤ m.toInt ∧ (mnF m G).toInt ≤ (lk G.es).toInt := by
      unfold mnF
      split
      · have := Int32.lt_iff_toInt_lt.mp ‹_›; omega
      · have := Int.not_lt.mp (fun z => ‹¬ _› (Int32.lt_iff_toInt_lt.mpr z)); omega
    rw [List.foldl_cons]
    refine ⟨by omega, fun F hF => ?_⟩
    rcases List.mem_cons.mp hF with rfl | hF
    · omega
    · exact h2 F hF
theorem mhi_ge : ∀ (fs : List FA) (m : Int32), m.toInt ≤ (fs.foldl mxF m).toInt ∧ ∀ F ∈ fs, (gk F.es).toInt ≤ (fs.foldl mxF m).toInt
  | [], m => ⟨Int.le_refl _, fun F hF => absurd hF List.not_mem_nil⟩
  | G :: fs, m => by
    obtain ⟨h1, h2⟩ := mhi_ge fs (mxF m G)
    have q : m.toInt ≤ (mxF m G).toInt ∧ (gk G.es).toInt ≤ (mxF m G).toInt := by
      unfold mxF
      split
      · have := Int32.lt_iff_toInt_lt.mp ‹_›; omega
      · have := Int.not_lt.mp (fun z => ‹¬ _› (Int32.lt_iff_toInt_lt.mpr z)); omega
    rw [List.foldl_cons]
    refine ⟨by omega, fun F hF => ?_⟩
    rcases List.mem_cons.mp hF with rfl | hF
    · omega
    · exact h2 F hF
theorem pw_iff {α : Type} {r : α → α → Prop} {l : List α} : (∀ (a b : Nat) (F G : α), a < b → l[a]? = some F → l[b]? = some G → r F G) ↔ l.Pairwise r := by
  rw [List.pairwise_iff_getElem]
  constructor
  · intro h i j hi hj hij
    exact h i j _ _ hij (List.getElem?_eq_getElem hi) (List.getElem?_eq_getElem hj)
  · intro h a b F G hab hF hG
    obtain ⟨ha, rfl⟩ := List.getElem?_eq_some_iff.mp hF
    obtain ⟨hb, rfl⟩ := List.getElem?_eq_some_iff.mp hG
    exact h a b ha hb hab
theorem cut_cnt (c : List FA → Nat) (hadd : ∀ a b, c (a ++ b) = c a + c b) (l m : List FA) {a b : Nat} (h : a ≤ b) : c (cutF l a b m) + c (slice l a b) = c l + c m := by
  have e : l = l.take a ++ slice l a b ++ l.drop b := by
    unfold slice
    conv => lhs; rw [← List.take_append_drop b l]
    congr 1
    conv => lhs; rw [← List.take_append_drop a (l.take b)]
    rw [List.take_take, show min a b = a by omega]
  have e2 : c l = c (l.take a) + c (slice l a b) + c (l.drop b) := by
    conv => lhs; rw [e]
    rw [hadd, hadd]
  unfold cutF
  rw [hadd, hadd, e2]
  omega
theorem cut_sub {l : List FA} {a b : Nat} (h : a ≤ b) : List.Sublist (cutF l a b []) l := by
  unfold cutF
  rw [List.append_nil]
  conv => rhs; rw [← List.take_append_drop a l]
  refine (List.Sublist.refl _).append ?_
  rw [show b = a + (b - a) by omega, ← List.drop_drop]
  exact List.drop_sublist _ _
section IP
variable {σ : St} {t : Nat}
theorem Inv.merge (h : Inv t σ) (ht : t + 1 ≤ 512) (l i : Int32) : Inv (t + 1) (σ.merge l i).2 := by
  unfold St.merge
  by_cases hb : 0 ≤ l.toInt ∧ l.toInt ≤ 2
  · rw [if_pos hb]
    by_cases hu : 0 < l.toInt ∧ ¬ (0 ≤ i.toInt ∧ i.toInt < ((σ.FS l.toInt.toNat).length : Int))
    · rw [if_pos hu]; exact h.up ht
    · rw [if_neg hu]
      by_cases hc : σ.job = true ∨ σ.FS l.toInt.toNat = []
      · rw [if_pos hc]; exact h.up ht
      · rw [if_neg hc]
        have hj : σ.job = false := by cases q : σ.job; rfl; exact absurd (Or.inl q) hc
        have hne : σ.FS l.toInt.toNat ≠ [] := fun q => hc (Or.inr q)
        have hi0 : l.toInt.toNat ≠ 0 → i.toInt.toNat < (σ.FS l.toInt.toNat).length := fun q => by omega
        have hk3 : l.toInt.toNat < 3 := by omega
        have h5 := h.nojob hj
        show Inv (t + 1) (σ.mergeB l.toInt.toNat i.toInt.toNat)
        generalize l.toInt.toNat = k at *
        generalize i.toInt.toNat = j at *
        have hB := h.1
        have hbu := hB.up ht
        obtain ⟨m1, m2⟩ := hB.mok k j hk3 hne hi0
        have hs := hB.s
        have hup : ∀ F ∈ σ.msl k j, F ∈ σ.FS k := sl_sub
        have hdn : ∀ F ∈ σ.mdn k j, F ∈ σ.FS (k + 1) := sl_sub
        have hp0 : 0 < (σ.FS k).length := List.length_pos_iff.mpr hne
        have hmsl : ∃ F, F ∈ σ.msl k j := by
          by_cases h0 : k = 0
          · refine ⟨(σ.FS k)[0], List.mem_of_getElem? (i := 0) ?_⟩
            unfold St.msl slice mlf mlt
            rw [if_pos h0, if_pos h0, List.getElem?_drop, List.getElem?_take, if_pos (by omega)]
            exact List.getElem?_eq_getElem hp0
          · have := hi0 h0
            refine ⟨(σ.FS k)[j], List.mem_of_getElem? (i := 0) ?_⟩
            unfold St.msl slice mlf mlt
            rw [if_neg h0, if_neg h0, List.getElem?_drop, List.getElem?_take, if_pos (by omega)]
            exact List.getElem?_eq_getElem (by omega)
        have hperm := msrc_perm (σ.msl k j) (σ.mdn k j)
        have hnm : msrc (σ.msl k j) (σ.mdn k j) ≠ [] := fun q => by
          obtain ⟨F, hF⟩ := hmsl
          obtain ⟨e, he, -⟩ := lk_mem (hB.f k (Or.inl (by omega)) F (hup F hF)).1.2.1
          have : e ∈ msrc (σ.msl k j) (σ.mdn k j) := hperm.mem_iff.mpr (List.mem_append_right _ (List.mem_flatMap.mpr ⟨F, hF, he⟩))
          rw [q] at this
          exact absurd this List.not_mem_nil
        have hlf : mlf k j ≤ mlt k j (σ.FS k).length ∧ mlt k j (σ.FS k).length ≤ (σ.FS k).length := by
          unfold mlf mlt
          by_cases h0 : k = 0
          · rw [if_pos h0, if_pos h0]; omega
          · have := hi0 h0
            rw [if_neg h0, if_neg h0]; omega
        have hmtt : σ.mtt k j ≤ (σ.FS (k + 1)).length := List.countP_le_length
        have hd1 := hB.l (k + 1) (by omega) (by omega)
        have hlg1 := hB.lg (k + 1) (by omega)
        have q1 : ∀ (a : Nat) (F : FA), (σ.FS (k + 1))[a]? = some F → (eb (mlo (σ.msl k j)) F = true ↔ a < σ.mtf k j) := cnt_pre (fun a b F G hab h1 h2 h3 => by
          have := hd1 a b F G hab h1 h2
          have := hlg1 G (List.mem_of_getElem? h2)
          simp only [decide_eq_true_eq] at h3 ⊢
          omega)
        have q2 : ∀ (a : Nat) (F : FA), (σ.FS (k + 1))[a]? = some F → (bu (mhi (σ.msl k j)) F = true ↔ a < σ.mtt k j) := cnt_pre (fun a b F G hab h1 h2 h3 => by
          have := hd1 a b F G hab h1 h2
          have := hlg1 F (List.mem_of_getElem? h1)
          simp only [decide_eq_true_eq] at h3 ⊢
          omega)
        refine ⟨hbu, Or.inr (Or.inl ⟨?_, ⟨hbu, ⟨⟨rfl, hnm, Nat.zero_le _, ?_⟩, ⟨?_, fun _ => hlf, m1, hmtt, fun q => by cases q⟩, ?_, ?_, fun q => (by cases q), fun _ e he => ⟨fun a G ha hG => ?_, fun a G ha hG => ?_⟩, ?_⟩, ?_, fun q => (by cases q), fun q => absurd h5 q, fun _ => ⟨fun _ => rfl, [], [], rfl, fun e he => absurd he List.not_mem_nil, fun e he => absurd he List.not_mem_nil, Nat.zero_le _, fun q => absurd rfl q, Nat.zero_le _⟩⟩, ?_⟩)⟩
        · show 0 < (msrc (σ.msl k j) (σ.mdn k j)).length
          exact List.length_pos_iff.mpr hnm
        · exact msrc_srt (fun F hF => hB.srE k (by omega) F (hup F hF)) (fun F hF => hB.srE (k + 1) (by omega) F (hdn F hF))
        · show k + 1 ≤ 3
          omega
        · show (msrc (σ.msl k j) (σ.mdn k j)).Perm (if k + 1 = 0 then _ else (σ.msl k j).flatMap FA.es ++ (σ.mdn k j).flatMap FA.es)
          rw [if_neg (by omega)]
          exact hperm.trans List.perm_append_comm
        · show List.Sublist ((σ.FS 5).flatMap FA.es ++ []) _
          rw [h5]; exact List.nil_sublist _
        · have hG : (σ.FS (k + 1))[a]? = some G := hG
          have ha : a < σ.mtf k j := ha
          have g1 := (q1 a G hG).mpr ha
          simp only [decide_eq_true_eq] at g1
          rcases List.mem_append.mp (hperm.mem_iff.mp he) with q | q
          · obtain ⟨F, hF, hFe⟩ := List.mem_flatMap.mp q
            obtain ⟨b, hb⟩ := List.getElem?_of_mem hF
            have hb' := sl_at hb
            have := hd1 a (σ.mtf k j + b) G F (by omega) hG hb'
            have := hB.kb (k + 1) (by omega) F (hdn F hF) e hFe
            omega
          · obtain ⟨F, hF, hFe⟩ := List.mem_flatMap.mp q
            have := (mlo_le (σ.msl k j) 1000).2 F hF
            have := hB.kb k (by omega) F (hup F hF) e hFe
            unfold mlo at g1
            omega
        · have hG : (σ.FS (k + 1))[a]? = some G := hG
          have ha : σ.mtt k j ≤ a := ha
          have g1 : ¬ (bu (mhi (σ.msl k j)) G = true) := fun z => by have := (q2 a G hG).mp z; omega
          simp only [decide_eq_true_eq] at g1
          rcases List.mem_append.mp (hperm.mem_iff.mp he) with q | q
          · obtain ⟨F, hF, hFe⟩ := List.mem_flatMap.mp q
            obtain ⟨b, hb⟩ := List.getElem?_of_mem hF
            have hb' := sl_at hb
            have hbl : b < ((σ.FS (k + 1)).take (σ.mtt k j)).length - σ.mtf k j := by have := (List.getElem?_eq_some_iff.mp hb).1; unfold St.mdn slice at this; rw [List.length_drop] at this; exact this
            rw [List.length_take] at hbl
            have := hd1 (σ.mtf k j + b) a F G (by omega) hb' hG
            have := hB.kb (k + 1) (by omega) F (hdn F hF) e hFe
            omega
          · obtain ⟨F, hF, hFe⟩ := List.mem_flatMap.mp q
            have := (mhi_ge (σ.msl k j) (-1)).2 F hF
            have := hB.kb k (by omega) F (hup F hF) e hFe
            unfold mhi at g1
            omega
        · show dis5 (σ.FS 5)
          rw [h5]; intro a b F G _ q; simp at q
        · intro F hF
          have hF : F ∈ σ.FS 5 := hF
          rw [h5] at hF; exact absurd hF List.not_mem_nil
        · show 3 * nSm σ.FS + 1 ≤ t + 1
          omega
  · rw [if_neg hb]; exact h.up ht
theorem endF_nSm : nSm σ.endF.1.FS = nSm σ.FS := by
  by_cases hne : σ.mak = []
  · rw [endF_nil hne]
  · cases hr : room σ.FS (enc σ.mak).length with
    | none => rw [endF_none hne hr]; rfl
    | some p => rw [endF_some hne hr]; rfl
theorem doE_nSm : nSm σ.doE.1.FS = nSm σ.FS := by
  by_cases hlo : σ.lo σ.don
  · rw [doE_lo hlo]; rfl
  · by_cases hc : σ.cut
    · rw [doE_cut hlo hc]
      have := endF_nSm (σ := σ.J (σ.don + 1) σ.mak)
      cases hb : (σ.J (σ.don + 1) σ.mak).endF.2 with
      | true => exact this
      | false => exact this
    · rw [doE_no hlo hc]; rfl
theorem works_nSm (N : Nat) : ∀ σ : St, nSm (σ.works N).1.FS = nSm σ.FS := by
  induction N with
  | zero => intro σ; rfl
  | succ N ih =>
    intro σ
    have e : σ.works (N + 1) = if σ.don < σ.src.length then (if σ.doE.2 then St.works N σ.doE.1 else (σ.doE.1, false)) else (σ, true) := rfl
    rw [e]
    by_cases hd : σ.don < σ.src.length
    · rw [if_pos hd]
      by_cases hb : σ.doE.2 = true
      · rw [if_pos hb, ih, doE_nSm]
      · rw [if_neg hb]; exact doE_nSm
    · rw [if_neg hd]
/-- what a failed step leaves is given up as the state ahead of it -/
theorem doE_gu (h : σ.doE.2 = false) : σ.doE.1.giveUp = σ.giveUp := by
  by_cases hlo : σ.lo σ.don
  · rw [doE_lo hlo] at h; cases h
  · by_cases hc : σ.cut
    · rw [doE_cut hlo hc] at h ⊢
      cases hb : (σ.J (σ.don + 1) σ.mak).endF.2 with
      | true => rw [hb] at h; cases h
      | false =>
        show (σ.J (σ.don + 1) σ.mak).endF.1.giveUp = σ.giveUp
        by_cases hne : σ.mak = []
        · rw [endF_nil (σ := σ.J (σ.don + 1) σ.mak) hne]; rfl
        · cases hr : room σ.FS (enc σ.mak).length with
          | none => rw [endF_none (σ := σ.J (σ.don + 1) σ.mak) hne hr]; rfl
          | some p => rw [endF_some (σ := σ.J (σ.don + 1) σ.mak) hne hr] at hb; cases hb
    · rw [doE_no hlo hc] at h; cases h
theorem endF_gu (h : σ.endF.2 = false) : σ.endF.1.giveUp = σ.giveUp := by
  by_cases hne : σ.mak = []
  · rw [endF_nil hne]
  · cases hr : room σ.FS (enc σ.mak).length with
    | none => rw [endF_none hne hr]; rfl
    | some p => rw [endF_some hne hr] at h; cases h
theorem works_gu (N : Nat) : ∀ {σ : St}, Wk t σ → (σ.works N).2 = false → ∃ σ', Wk t σ' ∧ (σ.works N).1.giveUp = σ'.giveUp := by
  induction N with
  | zero => intro σ _ q; cases q
  | succ N ih =>
    intro σ h hok
    have e : σ.works (N + 1) = if σ.don < σ.src.length then (if σ.doE.2 then St.works N σ.doE.1 else (σ.doE.1, false)) else (σ, true) := rfl
    rw [e] at hok ⊢
    by_cases hd : σ.don < σ.src.length
    · rw [if_pos hd] at hok ⊢
      by_cases hb : σ.doE.2 = true
      · rw [if_pos hb] at hok ⊢
        exact ih (h.step hd hb) hok
      · rw [if_neg hb]
        exact ⟨σ, h, doE_gu (by cases q : σ.doE.2; rfl; exact absurd q hb)⟩
    · rw [if_neg hd] at hok; cases hok
theorem Inv.work (h : Inv t σ) (ht : t + 1 ≤ 512) (x : Int32) : Inv (t + 1) (σ.work x).2 := by
  by_cases hx : x.toInt < 1 ∨ 500 < x.toInt
  · have e : σ.work x = (cBAD, σ) := by unfold St.work; rw [if_pos hx]
    rw [e]; exact h.up ht
  · by_cases hs : σ.job = false ∨ σ.don = σ.src.length
    · have e : σ.work x = (cSTATE, σ) := by unfold St.work; rw [if_neg hx, if_pos hs]
      rw [e]; exact h.up ht
    · have ewk : ∀ (r2 : St × Bool), (if (σ.works x.toInt.toNat).2 = true ∧ (σ.works x.toInt.toNat).1.don = (σ.works x.toInt.toNat).1.src.length then (σ.works x.toInt.toNat).1.endF else σ.works x.toInt.toNat) = r2 → σ.work x = if r2.2 = true then (nI ((σ.works x.toInt.toNat).1.src.length - (σ.works x.toInt.toNat).1.don), r2.1) else (cFULL, r2.1.giveUp) := fun r2 e => by unfold St.work; rw [if_neg hx, if_neg hs, e]
      have hw : Wk t σ ∧ 3 * nSm σ.FS + 1 ≤ t := by
        rcases h.2 with q | ⟨-, q⟩ | ⟨q, -⟩
        · exact absurd (Or.inl q.1) hs
        · exact q
        · exact absurd (Or.inr q.2.2.1) hs
      obtain ⟨hw, hph⟩ := hw
      have hn := works_nSm x.toInt.toNat σ
      cases hb : (σ.works x.toInt.toNat).2 with
      | false =>
        rw [ewk (σ.works x.toInt.toNat) (if_neg (fun q => by rw [hb] at q; cases q.1)), if_neg (by rw [hb]; decide)]
        obtain ⟨σ', hw', e⟩ := works_gu x.toInt.toNat hw hb
        show Inv (t + 1) (σ.works x.toInt.toNat).1.giveUp
        rw [e]
        exact Inv.gone (hw'.1.up ht)
      | true =>
        have hw1 := hw.works x.toInt.toNat hb
        by_cases hd : (σ.works x.toInt.toNat).1.don = (σ.works x.toInt.toNat).1.src.length
        · rw [ewk (σ.works x.toInt.toNat).1.endF (if_pos ⟨hb, hd⟩)]
          cases he : (σ.works x.toInt.toNat).1.endF.2 with
          | true =>
            rw [if_pos rfl]
            have hdn := hw1.fin hd he
            have e2 := endF_nSm (σ := (σ.works x.toInt.toNat).1)
            exact ⟨hdn.1.up ht, Or.inr (Or.inr ⟨hdn.up ht, by show 3 * nSm (σ.works x.toInt.toNat).1.endF.1.FS + 2 ≤ t + 1; omega⟩)⟩
          | false =>
            rw [if_neg (by decide)]
            show Inv (t + 1) (σ.works x.toInt.toNat).1.endF.1.giveUp
            rw [endF_gu he]
            exact Inv.gone (hw1.1.up ht)
        · rw [ewk (σ.works x.toInt.toNat) (if_neg (fun q => hd q.2)), if_pos hb]
          have := hw1.2.1.1.2.2.1
          exact ⟨hw1.1.up ht, Or.inr (Or.inl ⟨by show (σ.works x.toInt.toNat).1.don < (σ.works x.toInt.toNat).1.src.length; omega, hw1.up ht, by show 3 * nSm (σ.works x.toInt.toNat).1.FS + 1 ≤ t + 1; omega⟩)⟩
end IP
