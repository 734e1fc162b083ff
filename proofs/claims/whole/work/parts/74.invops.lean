/-! EVERY CALL KEEPS IT -/
def Inv (t : Nat) (σ : St) : Prop := Base t σ ∧ ((σ.job = false ∧ σ.src = [] ∧ σ.don = 0 ∧ σ.mak = [] ∧ σ.FS 5 = []) ∨ (σ.don < σ.src.length ∧ Wk t σ ∧ 3 * nSm σ.FS + 1 ≤ t) ∨ (Dn t σ ∧ 3 * nSm σ.FS + 2 ≤ t))
section IO
variable {σ : St} {t : Nat}
theorem Base.up (h : Base t σ) (ht : t + 1 ≤ 512) : Base (t + 1) σ := by
  obtain ⟨a1, a2, a3, a4, a5⟩ := h.a
  obtain ⟨n1, n2, n3, n4, n6⟩ := h.n
  have := h.s
  exact ⟨⟨a1, a2, by omega, ht, a5⟩, h.e, h.u, h.f, h.c, h.l, ⟨n1, by omega, n3, n4, n6⟩, by omega⟩
theorem Wk.up (h : Wk t σ) (ht : t + 1 ≤ 512) : Wk (t + 1) σ := ⟨h.1.up ht, h.2⟩
theorem Dn.up (h : Dn t σ) (ht : t + 1 ≤ 512) : Dn (t + 1) σ := ⟨h.1.up ht, h.2⟩
theorem Inv.up (h : Inv t σ) (ht : t + 1 ≤ 512) : Inv (t + 1) σ := ⟨h.1.up ht, h.2.imp id (fun q => q.imp (fun z => ⟨z.1, z.2.1.up ht, by omega⟩) (fun z => ⟨z.1.up ht, by omega⟩))⟩
theorem Base.setD (h : Base t σ) {log : List En} {syn num : Nat} {V : Nat → Int32} (ht : t + 1 ≤ 512) (a : log.length ≤ 24 ∧ syn ≤ log.length ∧ num ≤ t + 1 ∧ vOK V) (he : ∀ e ∈ allE (σ.D log syn num V), ve e ∧ e.2.1.toInt ≤ num) (hu : ∀ v, (allE (σ.D log syn num V)).countP (nu v) ≤ 1) : Base (t + 1) (σ.D log syn num V) := by
  obtain ⟨n1, n2, n3, n4, n6⟩ := h.n
  have := h.s
  exact ⟨⟨a.1, a.2.1, a.2.2.1, ht, a.2.2.2⟩, he, hu, h.f, h.c, h.l, ⟨n1, (by show σ.nf - n5 σ ≤ 512 * (t + 1); omega), n3, n4, n6⟩, (by show 3 * nSm σ.FS ≤ t + 1; omega)⟩
theorem JB.setD (h : JB σ) (l : List En) (syn num : Nat) (V : Nat → Int32) : JB (σ.D (σ.log ++ l) syn num V) := by
  obtain ⟨a, ⟨b1, b2, b3, b4, b5⟩, c, d, e, f, g⟩ := h
  refine ⟨a, ⟨b1, b2, b3, b4, fun q => ?_⟩, ?_, d, e, f, g⟩
  · show σ.src.length ≤ (σ.log ++ l).length
    have := b5 q
    rw [List.length_append]; omega
  · have es : srcL (σ.D (σ.log ++ l) syn num V) = srcL σ := by
      show (if σ.tgt = 0 then (σ.log ++ l).take σ.src.length else _) = (if σ.tgt = 0 then σ.log.take σ.src.length else _)
      by_cases h0 : σ.tgt = 0
      · rw [if_pos h0, if_pos h0, List.take_append_of_le_length (b5 h0)]
      · rw [if_neg h0, if_neg h0]; rfl
    rw [es]; exact c
theorem Inv.setD (h : Inv t σ) (ht : t + 1 ≤ 512) {l : List En} {syn num : Nat} {V : Nat → Int32} (hb : Base (t + 1) (σ.D (σ.log ++ l) syn num V)) : Inv (t + 1) (σ.D (σ.log ++ l) syn num V) := by
  refine ⟨hb, ?_⟩
  rcases h.2 with q | ⟨q1, q2, q3⟩ | ⟨q1, q2⟩
  · exact Or.inl q
  · exact Or.inr (Or.inl ⟨q1, ⟨hb, q2.2.1.setD l syn num V, q2.2.2⟩, (by show 3 * nSm σ.FS + 1 ≤ t + 1; omega)⟩)
  · exact Or.inr (Or.inr ⟨⟨hb, q1.2.1.setD l syn num V, q1.2.2⟩, (by show 3 * nSm σ.FS + 2 ≤ t + 1; omega)⟩)
theorem Inv.write (h : Inv t σ) (ht : t + 1 ≤ 512) {k v : Int32} (hk : isK k) (hv : v = cNONE ∨ -100000 ≤ v.toInt ∧ v.toInt ≤ 100000) : Inv (t + 1) (σ.write k v).2 := by
  unfold St.write
  by_cases hc : 24 ≤ σ.log.length ∨ 60000 ≤ σ.num
  · rw [if_pos hc]; exact h.up ht
  · rw [if_neg hc]
    obtain ⟨a1, a2, a3, a4, a5⟩ := h.1.a
    have en : (nI (σ.num + 1)).toInt = ((σ.num + 1 : Nat) : Int) := tI_n (by omega)
    have hall : allE (σ.D (σ.log ++ [(k, nI (σ.num + 1), v)]) σ.syn (σ.num + 1) σ.V) = (σ.log ++ [(k, nI (σ.num + 1), v)]) ++ ((σ.FS 0 ++ σ.FS 1 ++ σ.FS 2 ++ σ.FS 3).flatMap FA.es) := rfl
    refine h.setD ht (h.1.setD ht ⟨by rw [List.length_append, List.length_singleton]; omega, by rw [List.length_append, List.length_singleton]; omega, by omega, a5⟩ (fun e he => ?_) (fun w => ?_))
    · rw [hall] at he
      have old : e ∈ allE σ → ve e ∧ e.2.1.toInt ≤ ((σ.num + 1 : Nat) : Int) := fun q => ⟨(h.1.e e q).1, by have := (h.1.e e q).2; omega⟩
      rcases List.mem_append.mp he with q | q
      · rcases List.mem_append.mp q with q | q
        · exact old (List.mem_append_left _ q)
        · rw [List.mem_singleton.mp q]
          exact ⟨⟨hk.1, hk.2, by show 1 ≤ (nI (σ.num + 1)).toInt; rw [en]; omega, by show (nI (σ.num + 1)).toInt ≤ 60000; rw [en]; omega, hv⟩, by show (nI (σ.num + 1)).toInt ≤ _; rw [en]; exact Int.le_refl _⟩
      · exact old (List.mem_append_right _ q)
    · rw [hall, List.countP_append, List.countP_append]
      have hu := h.1.u w
      have e2 : (allE σ).countP (nu w) = σ.log.countP (nu w) + ((σ.FS 0 ++ σ.FS 1 ++ σ.FS 2 ++ σ.FS 3).flatMap FA.es).countP (nu w) := by unfold allE; rw [List.countP_append]
      by_cases q : w = ((σ.num + 1 : Nat) : Int)
      · have hz : (allE σ).countP (nu w) = 0 := List.countP_eq_zero.mpr (fun e he z => by
          have := (h.1.e e he).2
          unfold nu at z
          simp at z
          omega)
        have := List.countP_le_length (p := nu w) (l := [(k, nI (σ.num + 1), v)])
        rw [List.length_singleton] at this
        omega
      · have hz : [(k, nI (σ.num + 1), v)].countP (nu w) = 0 := List.countP_eq_zero.mpr (fun e he z => by
          rw [List.mem_singleton.mp he] at z
          unfold nu at z
          simp only [decide_eq_true_eq] at z
          exact q (by rw [← z, en]))
        omega
theorem Inv.put (h : Inv t σ) (ht : t + 1 ≤ 512) (k v : Int32) : Inv (t + 1) (σ.put k v).2 := by
  unfold St.put
  by_cases hc : isK k ∧ -100000 ≤ v.toInt ∧ v.toInt ≤ 100000
  · rw [if_pos hc]; exact h.write ht hc.1 (Or.inr hc.2)
  · rw [if_neg hc]; exact h.up ht
theorem Inv.drop (h : Inv t σ) (ht : t + 1 ≤ 512) (k : Int32) : Inv (t + 1) (σ.drop k).2 := by
  unfold St.drop
  by_cases hc : isK k
  · rw [if_pos hc]; exact h.write ht hc (Or.inl rfl)
  · rw [if_neg hc]; exact h.up ht
theorem Inv.setV (h : Inv t σ) (ht : t + 1 ≤ 512) {syn : Nat} (hs : syn ≤ σ.log.length) {V : Nat → Int32} (hV : vOK V) : Inv (t + 1) (σ.D σ.log syn σ.num V) := by
  obtain ⟨a1, a2, a3, a4, a5⟩ := h.1.a
  have e : σ.D σ.log syn σ.num V = σ.D (σ.log ++ []) syn σ.num V := by rw [List.append_nil]
  rw [e]
  refine h.setD ht ?_
  rw [← e]
  exact h.1.setD ht ⟨a1, hs, by omega, hV⟩ h.1.e h.1.u
theorem Inv.sync (h : Inv t σ) (ht : t + 1 ≤ 512) : Inv (t + 1) σ.sync.2 := h.setV ht (Nat.le_refl _) h.1.a.2.2.2.2
theorem vOK.set {V : Nat → Int32} (h : vOK V) (i : Nat) {x : Int32} (hx : x = -1 ∨ 0 ≤ x.toInt) : vOK (va_up V i x) := fun k hk => by
  by_cases q : k = i
  · rw [q, up_at]; exact hx
  · rw [up_ne q]; exact h k hk
theorem Inv.hold (h : Inv t σ) (ht : t + 1 ≤ 512) (v : Int32) : Inv (t + 1) (σ.hold v).2 := by
  obtain ⟨a1, a2, a3, a4, a5⟩ := h.1.a
  unfold St.hold
  by_cases h1 : isV v
  · rw [if_pos h1]
    by_cases h2 : σ.V v.toInt.toNat ≠ -1
    · rw [if_pos h2]; exact h.up ht
    · rw [if_neg h2]; exact h.setV ht a2 (a5.set _ (Or.inr (by rw [tI_n (by omega)]; omega)))
  · rw [if_neg h1]; exact h.up ht
theorem Inv.release (h : Inv t σ) (ht : t + 1 ≤ 512) (v : Int32) : Inv (t + 1) (σ.release v).2 := by
  obtain ⟨a1, a2, a3, a4, a5⟩ := h.1.a
  unfold St.release
  by_cases h1 : σ.held v
  · rw [if_pos h1]; exact h.setV ht a2 (a5.set _ (Or.inl rfl))
  · rw [if_neg h1]; exact h.up ht
theorem Inv.gone (h : Base t σ) : Inv t σ.giveUp := ⟨h.giveUp, Or.inl ⟨rfl, rfl, rfl, rfl, (by show va_up σ.FS 5 [] 5 = []; rw [up_at])⟩⟩
theorem Inv.stop (h : Inv t σ) (ht : t + 1 ≤ 512) : Inv (t + 1) σ.stop.2 := by
  unfold St.stop
  by_cases h1 : σ.job = true
  · rw [if_pos h1]; exact Inv.gone (h.1.up ht)
  · rw [if_neg h1]; exact h.up ht
theorem Inv.crash (h : Inv t σ) (ht : t + 1 ≤ 512) (x : Int32) : Inv (t + 1) (σ.crash x).2 := by
  obtain ⟨a1, a2, a3, a4, a5⟩ := h.1.a
  unfold St.crash
  by_cases hc : 0 ≤ x.toInt ∧ x.toInt ≤ ((σ.log.length - σ.syn : Nat) : Int)
  · rw [if_pos hc]
    generalize hm : σ.syn + x.toInt.toNat = m
    have hml : m ≤ σ.log.length := by omega
    have hg := isGN_gnum (σ.log.take m) σ.FS
    have hsub : ∀ e ∈ σ.log.take m ++ (σ.FS 0 ++ σ.FS 1 ++ σ.FS 2 ++ σ.FS 3).flatMap FA.es, e ∈ allE σ := fun e he => by
      rcases List.mem_append.mp he with q | q
      · exact List.mem_append_left _ (List.mem_of_mem_take q)
      · exact List.mem_append_right _ q
    have hgn : (gnum (σ.log.take m) σ.FS).toInt ≤ σ.num := by
      rcases hg.2.1 with q | ⟨e, he, q⟩
      · rw [q, tl_0]; omega
      · rw [q]; exact (h.1.e e (hsub e he)).2
    have hb := h.1.giveUp
    have key : Base (t + 1) (σ.giveUp.D (σ.log.take m) σ.syn (gnum (σ.log.take m) σ.FS).toInt.toNat (noV σ.V)) := by
      have hall : allE (σ.giveUp.D (σ.log.take m) σ.syn (gnum (σ.log.take m) σ.FS).toInt.toNat (noV σ.V)) = σ.log.take m ++ (σ.FS 0 ++ σ.FS 1 ++ σ.FS 2 ++ σ.FS 3).flatMap FA.es := rfl
      refine hb.setD ht ⟨by rw [List.length_take]; omega, by rw [List.length_take]; omega, by omega, fun k hk => Or.inl (if_pos hk)⟩ (fun e he => ?_) (fun w => ?_)
      · rw [hall] at he
        refine ⟨(h.1.e e (hsub e he)).1, ?_⟩
        have := hg.2.2 e he
        have := hg.1
        omega
      · rw [hall, List.countP_append]
        have hu := h.1.u w
        have e2 : (allE σ).countP (nu w) = σ.log.countP (nu w) + ((σ.FS 0 ++ σ.FS 1 ++ σ.FS 2 ++ σ.FS 3).flatMap FA.es).countP (nu w) := by unfold allE; rw [List.countP_append]
        have := (List.take_sublist m σ.log).countP_le (p := nu w)
        omega
    exact ⟨key, Or.inl ⟨rfl, rfl, rfl, rfl, (by show va_up σ.FS 5 [] 5 = []; rw [up_at])⟩⟩
  · rw [if_neg hc]; exact h.up ht
theorem Inv.idle (h : Inv t σ) : idle σ := fun hj => by
  rcases h.2 with q | ⟨-, q, -⟩ | ⟨q, -⟩
  · exact q.2
  · have := q.2.1.1.1; rw [hj] at this; cases this
  · have := q.2.1.1.1; rw [hj] at this; cases this
theorem Inv.nojob (h : Inv t σ) (hj : σ.job = false) : σ.FS 5 = [] := (h.idle hj).2.2.2
theorem Inv.flush (h : Inv t σ) (ht : t + 1 ≤ 512) : Inv (t + 1) σ.flush.2 := by
  obtain ⟨a1, a2, a3, a4, a5⟩ := h.1.a
  unfold St.flush
  by_cases hc : σ.job = true ∨ σ.log = []
  · rw [if_pos hc]; exact h.up ht
  · rw [if_neg hc]
    have hj : σ.job = false := by cases q : σ.job; rfl; exact absurd (Or.inl q) hc
    have hne : σ.log ≠ [] := fun q => hc (Or.inr q)
    have h5 := h.nojob hj
    have hb := h.1.up ht
    have hl := fsrc_len σ.log
    have hpos := List.length_pos_iff.mpr hne
    have hs := h.1.s
    have hsn : fsrc σ.log ≠ [] := fun q => by rw [q] at hl; rw [← hl] at hpos; exact absurd hpos (by decide)
    refine ⟨hb, Or.inr (Or.inl ⟨?_, ⟨hb, ⟨⟨rfl, hsn, Nat.zero_le _, ?_⟩, ⟨Nat.zero_le _, fun q => absurd rfl q, Nat.le_refl _, Nat.le_refl _, fun _ => ?_⟩, ?_, ?_, fun _ => ⟨?_, rfl⟩, fun q => absurd rfl q, ?_⟩, ?_, fun _ => h5, fun q => absurd h5 q, fun q => absurd rfl q⟩, ?_⟩)⟩
    · show 0 < (fsrc σ.log).length
      omega
    · show srtE (fsrc σ.log)
      rw [fsrc_insA]; exact insA_srt _ List.Pairwise.nil
    · show (fsrc σ.log).length ≤ σ.log.length
      omega
    · show (fsrc σ.log).Perm (if (0 : Nat) = 0 then σ.log.take (fsrc σ.log).length else _)
      rw [if_pos rfl, hl, List.take_length, fsrc_insA]
      have := insA_perm σ.log []
      rw [List.nil_append] at this
      exact this
    · show List.Sublist ((σ.FS 5).flatMap FA.es ++ []) _
      rw [h5]; exact List.nil_sublist _
    · show (fsrc σ.log).length ≤ 24
      omega
    · show dis5 (σ.FS 5)
      rw [h5]; intro a b F G _ q; simp at q
    · intro F hF
      have hF : F ∈ σ.FS 5 := hF
      rw [h5] at hF; exact absurd hF List.not_mem_nil
    · show 3 * nSm σ.FS + 1 ≤ t + 1
      omega
end IO
