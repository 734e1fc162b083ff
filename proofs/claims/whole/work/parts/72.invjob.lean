/-! WHAT HOLDS WHILE THERE IS A JOB -/
def srcL (σ : St) : List En := if σ.tgt = 0 then σ.log.take σ.src.length else (slice (σ.FS (σ.tgt - 1)) σ.lf σ.lt).flatMap FA.es ++ (slice (σ.FS σ.tgt) σ.tf σ.tt).flatMap FA.es
def dis5 (fs : List FA) : Prop := ∀ (a b : Nat) (F G : FA), a < b → fs[a]? = some F → fs[b]? = some G → (gk F.es).toInt < (lk G.es).toInt
def JB (σ : St) : Prop :=
  (σ.job = true ∧ σ.src ≠ [] ∧ σ.don ≤ σ.src.length ∧ srtE σ.src) ∧ posOK σ ∧ σ.src.Perm (srcL σ) ∧ List.Sublist ((σ.FS 5).flatMap FA.es ++ σ.mak) (σ.src.take σ.don) ∧ (σ.tgt = 0 → σ.src.length ≤ 24 ∧ σ.tf = (σ.FS 0).length) ∧
  (σ.tgt ≠ 0 → ∀ e ∈ σ.src, (∀ (a : Nat) (G : FA), a < σ.tf → (σ.FS σ.tgt)[a]? = some G → (gk G.es).toInt < e.1.toInt) ∧ ∀ (a : Nat) (G : FA), σ.tt ≤ a → (σ.FS σ.tgt)[a]? = some G → e.1.toInt < (lk G.es).toInt) ∧ dis5 (σ.FS 5)
/-- how many views are from a number on -/
def nvw (V : Nat → Int32) (x : Int) : Nat := (if x ≤ (V 0).toInt then 1 else 0) + (if x ≤ (V 1).toInt then 1 else 0) + (if x ≤ (V 2).toInt then 1 else 0)
theorem nvw_le (V : Nat → Int32) (x : Int) : nvw V x ≤ 3 := by unfold nvw; split <;> split <;> split <;> omega
theorem nvw_mono (V : Nat → Int32) {x y : Int} (h : y ≤ x) : nvw V x ≤ nvw V y := by unfold nvw; split <;> split <;> split <;> split <;> split <;> split <;> omega
theorem nvw_seen {f : Nat → En} {V : Nat → Int32} {k : Nat} (h : seenK f V k) (hm : (f k).2.1.toInt ≤ (f (k - 1)).2.1.toInt) : nvw V (f (k - 1)).2.1.toInt + 1 ≤ nvw V (f k).2.1.toInt := by
  unfold nvw
  unfold seenK at h
  split <;> split <;> split <;> split <;> split <;> split <;> omega
/-- of the file being made: what is of earlier keys, and what is of the key done last -/
def runOK (σ : St) : Prop := σ.tgt ≠ 0 → (σ.don = 0 → σ.mak = []) ∧ ∃ A B : List En, σ.mak = A ++ B ∧ (∀ e ∈ B, e.1.toInt = (lfn σ.src (σ.don - 1)).1.toInt) ∧ (∀ e ∈ A, e.1.toInt ≠ (lfn σ.src (σ.don - 1)).1.toInt) ∧ A.length ≤ 11 ∧ (B ≠ [] → A.length ≤ 7) ∧ B.length ≤ 1 + nvw σ.JV (lfn σ.src (σ.don - 1)).2.1.toInt
def Wk (t : Nat) (σ : St) : Prop := Base t σ ∧ JB σ ∧ (∀ F ∈ σ.FS 5, 8 ≤ F.es.length) ∧ (σ.tgt = 0 → σ.FS 5 = []) ∧ (σ.FS 5 ≠ [] → σ.mak ≠ [] ∧ ∀ F ∈ σ.FS 5, (gk F.es).toInt < (lk σ.mak).toInt) ∧ runOK σ
def Dn (t : Nat) (σ : St) : Prop := Base t σ ∧ JB σ ∧ σ.don = σ.src.length ∧ σ.mak = [] ∧ (σ.FS 5).countP sm ≤ 1 ∧ (σ.tgt = 0 → (σ.FS 5).length ≤ 1)
section IJ
variable {σ : St} {t : Nat}
theorem srcL_mem (hp : posOK σ) {e : En} (h : e ∈ srcL σ) : e ∈ allE σ := by
  unfold srcL at h
  by_cases h0 : σ.tgt = 0
  · rw [if_pos h0] at h
    exact List.mem_append_left _ (List.mem_of_mem_take h)
  · rw [if_neg h0] at h
    rcases List.mem_append.mp h with q | q
    · obtain ⟨F, q1, q2⟩ := List.mem_flatMap.mp q
      exact allE_mem (k := σ.tgt - 1) (by have := hp.1; omega) (sl_sub F q1) q2
    · obtain ⟨F, q1, q2⟩ := List.mem_flatMap.mp q
      exact allE_mem (k := σ.tgt) (by have := hp.1; omega) (sl_sub F q1) q2
theorem JB.mem (h : JB σ) {e : En} (he : e ∈ σ.src) : e ∈ allE σ := srcL_mem h.2.1 (h.2.2.1.mem_iff.mp he)
theorem srcL_cnt (hp : posOK σ) (p : En → Bool) : (srcL σ).countP p ≤ (allE σ).countP p := by
  rw [allE_cnt]
  unfold srcL
  by_cases h0 : σ.tgt = 0
  · rw [if_pos h0]
    have := (List.take_sublist σ.src.length σ.log).countP_le (p := p)
    omega
  · rw [if_neg h0, List.countP_append]
    have sub : ∀ (fs : List FA) (a b : Nat), a ≤ b → cE p (slice fs a b) ≤ cE p fs := fun fs a b hab => by
      have := cE_cut p fs [] hab
      rw [cE_nil] at this
      omega
    have s1 := sub (σ.FS (σ.tgt - 1)) σ.lf σ.lt (hp.2.1 h0).1
    have s2 := sub (σ.FS σ.tgt) σ.tf σ.tt hp.2.2.1
    unfold cE at *
    have := hp.1
    rcases (show σ.tgt = 1 ∨ σ.tgt = 2 ∨ σ.tgt = 3 by omega) with q | q | q <;> (rw [q] at s1 s2 ⊢; simp only [Nat.reduceSub] at s1 ⊢; omega)
theorem JB.len (h : JB σ) (hb : Base t σ) : σ.src.length ≤ 512 := by
  have h1 := h.2.2.1.length_eq
  have h2 := srcL_cnt h.2.1 (fun _ => true)
  simp only [List.countP_true] at h2
  have := hb.len
  have := hb.a
  omega
theorem JB.mak (h : JB σ) : List.Sublist σ.mak (σ.src.take σ.don) := (List.sublist_append_right _ _).trans h.2.2.2.1
theorem JB.mak_mem (h : JB σ) {e : En} (he : e ∈ σ.mak) : ∃ i, i < σ.don ∧ σ.src[i]? = some e := by
  have := h.mak.subset he
  obtain ⟨i, hi⟩ := List.getElem?_of_mem this
  rw [List.getElem?_take] at hi
  split at hi
  · exact ⟨i, ‹_›, hi⟩
  · cases hi
theorem JB.mak_srt (h : JB σ) : srtE σ.mak := List.Pairwise.sublist (h.mak.trans (List.take_sublist _ _)) h.1.2.2.2
theorem JB.f5 (h : JB σ) : ((σ.FS 5).flatMap FA.es).length + σ.mak.length ≤ σ.don := by
  have := h.2.2.2.1.length_le
  rw [List.length_append, List.length_take] at this
  omega
theorem Wk.mlen (h : Wk t σ) (ht : σ.tgt ≠ 0) : σ.mak.length ≤ 11 := by
  obtain ⟨-, A, B, e, -, -, h1, h2, h3⟩ := h.2.2.2.2.2 ht
  rw [e, List.length_append]
  have := nvw_le σ.JV (lfn σ.src (σ.don - 1)).2.1.toInt
  by_cases hB : B = []
  · rw [hB, List.length_nil]; omega
  · have := h2 hB; omega
theorem Wk.vk (h : Wk t σ) : vk σ.mak := by
  refine ⟨fun e he => ?_, srt_kn h.2.1.mak_srt, ?_⟩
  · obtain ⟨i, -, hi⟩ := h.2.1.mak_mem he
    exact (h.1.e e (h.2.1.mem (List.mem_of_getElem? hi))).1
  · by_cases h0 : σ.tgt = 0
    · have := (h.2.1.2.2.2.2.1 h0).1
      have := h.2.1.f5
      have := h.2.1.1.2.2.1
      omega
    · have := h.mlen h0; omega
theorem Wk.okd (h : Wk t σ) : OKD σ := by
  have hl := h.2.1.len h.1
  have h5 := h.2.1.f5
  refine ⟨h.2.1.1.1, hl, fun hd hlo hc => ?_, h.1.plc, h.vk, ?_, h.2.1.2.1.1, h.1.n.1, h.2.1.1.2.2.1⟩
  · by_cases h0 : σ.tgt = 0
    · have := (h.2.1.2.2.2.2.1 h0).1; omega
    · have := h.mlen h0; omega
  · have h4 := h.1.cnt4
    have hb := big8 (σ.FS 5)
    have hz : (σ.FS 5).countP sm = 0 := List.countP_eq_zero.mpr (fun F hF q => by have := h.2.2.1 F hF; unfold sm at q; simp at q; omega)
    have := h.2.1.1.2.2.1
    unfold cntF
    omega
/-- a new file -/
theorem Base.newF (h : Base t σ) {es : List En} {p : Nat} (hr : Fit σ.FS (enc es).length p) (hv : vk es) (hs : srtE es) (hne : es ≠ []) (hnb : σ.nf < 1000000) : Base t (σ.F (va_up σ.FS 5 (σ.FS 5 ++ [(nI σ.nf, nI p, nI (enc es).length, es)])) (lay21 σ.B p (enc es)) (σ.nf + 1)) := by
  have hel := enc_len hv
  have hep := enc_pos es
  have hpl : pl (nI σ.nf, nI p, nI (enc es).length, es) = p := by unfold pl; rw [tI_n (by have := hr.1; omega), Int.toNat_natCast]
  have hln : ln (nI σ.nf, nI p, nI (enc es).length, es) = (enc es).length := by unfold ln; rw [tI_n (by omega), Int.toNat_natCast]
  have o : ∀ k, k ≠ 5 → va_up σ.FS 5 (σ.FS 5 ++ [(nI σ.nf, nI p, nI (enc es).length, es)]) k = σ.FS k := fun k hk => up_ne hk
  have oldOK : ∀ (k : Nat) (F : FA), lvk k → F ∈ σ.FS k → FOK (lay21 σ.B p (enc es)) F := fun k F hk hF => by
    obtain ⟨f1, f2, f3, f4, f5, f6⟩ := (h.f k hk F hF).1
    refine ⟨f1, f2, f3, f4, f5, fun j b q => ?_⟩
    obtain ⟨a, ha⟩ := List.getElem?_of_mem hF
    have hd := hr.2 k a F hk ha
    rw [(h.f k hk F hF).1.lnE] at hd
    have hjl := (List.getElem?_eq_some_iff.mp q).1
    unfold lay21
    rw [if_neg (by omega)]
    exact f6 j b q
  have newOK : FOK (lay21 σ.B p (enc es)) (nI σ.nf, nI p, nI (enc es).length, es) := by
    refine ⟨hv, hne, by rw [hpl], rfl, by rw [hpl]; exact hr.1, fun j b q => ?_⟩
    have hjl : j < (enc es).length := (List.getElem?_eq_some_iff.mp q).1
    rw [hpl]
    unfold lay21
    rw [if_pos (by omega), show p + j - p = j by omega, List.getD_eq_getElem?_getD]
    have q' : (enc es)[j]? = some b := q
    rw [q']
    rfl
  obtain ⟨n1, n2, n3, n4, n6⟩ := h.n
  have len5 : (va_up σ.FS 5 (σ.FS 5 ++ [(nI σ.nf, nI p, nI (enc es).length, es)]) 5).length = (σ.FS 5).length + 1 := by rw [up_at, List.length_append]; rfl
  have e5 : n5 (σ.F (va_up σ.FS 5 (σ.FS 5 ++ [(nI σ.nf, nI p, nI (enc es).length, es)])) (lay21 σ.B p (enc es)) (σ.nf + 1)) = (σ.FS 5).length + 1 := len5
  have enf : St.nf (σ.F (va_up σ.FS 5 (σ.FS 5 ++ [(nI σ.nf, nI p, nI (enc es).length, es)])) (lay21 σ.B p (enc es)) (σ.nf + 1)) = σ.nf + 1 := rfl
  refine ⟨h.1, ?_, ?_, fun k hk F hF => ?_, ?_, fun k h1 h2 => ?_, ⟨?_, ?_, fun k hk F hF => ?_, fun i F hF => ?_, ?_⟩, ?_⟩
  · have e : allE (σ.F (va_up σ.FS 5 (σ.FS 5 ++ [(nI σ.nf, nI p, nI (enc es).length, es)])) (lay21 σ.B p (enc es)) (σ.nf + 1)) = allE σ := rfl
    rw [e]; exact h.e
  · have e : allE (σ.F (va_up σ.FS 5 (σ.FS 5 ++ [(nI σ.nf, nI p, nI (enc es).length, es)])) (lay21 σ.B p (enc es)) (σ.nf + 1)) = allE σ := rfl
    rw [e]; exact h.u
  · have hF : F ∈ va_up σ.FS 5 (σ.FS 5 ++ [(nI σ.nf, nI p, nI (enc es).length, es)]) k := hF
    by_cases h5 : k = 5
    · subst h5
      rw [up_at] at hF
      rcases List.mem_append.mp hF with q | q
      · exact ⟨oldOK 5 F hk q, (h.f 5 hk F q).2⟩
      · rw [List.mem_singleton.mp q]; exact ⟨newOK, hs⟩
    · rw [up_ne h5] at hF
      exact ⟨oldOK k F hk hF, (h.f k hk F hF).2⟩
  · -- apart
    intro j
    have hc := h.c j
    show (va_up σ.FS 5 (σ.FS 5 ++ [(nI σ.nf, nI p, nI (enc es).length, es)]) 0).countP (cov j) + (va_up σ.FS 5 (σ.FS 5 ++ [(nI σ.nf, nI p, nI (enc es).length, es)]) 1).countP (cov j) + (va_up σ.FS 5 (σ.FS 5 ++ [(nI σ.nf, nI p, nI (enc es).length, es)]) 2).countP (cov j) + (va_up σ.FS 5 (σ.FS 5 ++ [(nI σ.nf, nI p, nI (enc es).length, es)]) 3).countP (cov j) + (va_up σ.FS 5 (σ.FS 5 ++ [(nI σ.nf, nI p, nI (enc es).length, es)]) 5).countP (cov j) ≤ 1
    rw [o 0 (by decide), o 1 (by decide), o 2 (by decide), o 3 (by decide), up_at, List.countP_append]
    by_cases q : cov j (nI σ.nf, nI p, nI (enc es).length, es) = true
    · have hq : p ≤ j ∧ j < p + (enc es).length := by
        have := of_decide_eq_true q
        rw [hpl, hln] at this
        exact this
      have z : ∀ k, lvk k → (σ.FS k).countP (cov j) = 0 := fun k hk => List.countP_eq_zero.mpr (fun F hF w => by
        have w := of_decide_eq_true w
        obtain ⟨a, ha⟩ := List.getElem?_of_mem hF
        have := hr.2 k a F hk ha
        omega)
      rw [z 0 (by decide), z 1 (by decide), z 2 (by decide), z 3 (by decide), z 5 (by decide)]
      have := List.countP_le_length (p := cov j) (l := [(nI σ.nf, nI p, nI (enc es).length, es)])
      rw [List.length_singleton] at this
      omega
    · rw [List.countP_cons_of_neg q, List.countP_nil]
      omega
  · have : ldis σ k := h.l k h1 h2
    intro a b F G hab hF hG
    exact this a b F G hab (by rw [← o k (by omega)]; exact hF) (by rw [← o k (by omega)]; exact hG)
  · rw [e5, enf]; unfold n5 at n1; omega
  · rw [e5, enf]; unfold n5 at n1 n2; omega
  · rw [e5, enf]
    have hF : F ∈ va_up σ.FS 5 (σ.FS 5 ++ [(nI σ.nf, nI p, nI (enc es).length, es)]) k := hF
    rw [o k (by omega)] at hF
    have := n3 k hk F hF
    unfold n5 at this n1
    omega
  · rw [e5, enf]
    have hF : (va_up σ.FS 5 (σ.FS 5 ++ [(nI σ.nf, nI p, nI (enc es).length, es)]) 5)[i]? = some F := hF
    rw [up_at] at hF
    unfold n5 at n1 n4
    by_cases ha : i < (σ.FS 5).length
    · rw [List.getElem?_append_left ha] at hF
      rw [n4 i F hF]; congr 1; omega
    · have hl := (List.getElem?_eq_some_iff.mp hF).1
      rw [List.length_append, List.length_singleton] at hl
      have haa : i = (σ.FS 5).length := by omega
      subst haa
      rw [List.getElem?_append_right (Nat.le_refl _)] at hF
      simp at hF
      rw [← hF]
      show nI σ.nf = _
      congr 1; omega
  · exact n6
  · exact h.s
end IJ
