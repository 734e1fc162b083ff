/-! HOW THE REFERENCE KEEPS THE STATE -/
def arr3 (I : ab_II) (a b c off : Nat) (es : List En) : Prop := ∀ (j : Nat) (e : En), es[j]? = some e → I a (off + j) = e.1 ∧ I b (off + j) = e.2.1 ∧ I c (off + j) = e.2.2
def lvc (k : Nat) : Int32 := if k = 5 then 9 else nI k
def slOK (I : ab_II) (f : Nat) (F : FA) : Prop := I 45 f = F.1 ∧ I 46 f = F.2.1 ∧ I 47 f = F.2.2.1 ∧ I 48 f = nI F.es.length ∧ F.es.length ≤ 24 ∧ arr3 I 49 50 51 (30 * f) F.es
def mLog (σ : St) (I : ab_II) : Prop := I 39 1 = nI σ.log.length ∧ arr3 I 40 41 42 0 σ.log
def mDat (σ : St) (I : ab_II) : Prop := I 39 2 = nI σ.syn ∧ I 39 6 = nI σ.num ∧ ∀ k, k < 3 → I 43 k = σ.V k
def mSl (σ : St) (I : ab_II) (SL : Nat → List Nat) : Prop := (∀ k, lvk k → (SL k).length = (σ.FS k).length ∧ (SL k).Nodup ∧ ∀ (a f : Nat) (F : FA), (SL k)[a]? = some f → (σ.FS k)[a]? = some F → f < 330 ∧ I 44 f = lvc k ∧ slOK I f F) ∧ ∀ f, f < 330 → I 44 f = -1 ∨ ∃ k, lvk k ∧ f ∈ SL k
def mFld (σ : St) (I : ab_II) : Prop := I 39 16 = nI σ.nf ∧ ∀ j, j < 1500 → I 52 j = σ.B j
def isSrc (σ : St) (SL : Nat → List Nat) (f : Nat) : Prop := (σ.tgt ≠ 0 ∧ f ∈ ((SL (σ.tgt - 1)).take σ.lt).drop σ.lf) ∨ f ∈ ((SL σ.tgt).take σ.tt).drop σ.tf
def mJ2 (σ : St) (I : ab_II) (SL : Nat → List Nat) : Prop := I 39 21 = nI σ.tgt - 1 ∧ I 39 22 = nI σ.src.length ∧ arr3 I 54 55 56 0 σ.src ∧ (∀ k, k < 3 → I 58 k = σ.JV k) ∧ (σ.tgt = 0 → I 39 29 = nI σ.src.length) ∧ I 39 32 = nI σ.mak.length ∧ arr3 I 59 60 61 0 σ.mak ∧ ∀ f, f < 330 → bit (I 57 f) (isSrc σ SL f)
def mJob (σ : St) (I : ab_II) (SL : Nat → List Nat) : Prop := I 39 20 = (if σ.job then 1 else 0) ∧ I 39 30 = nI (σ.FS 5).length ∧ (σ.job = true → mJ2 σ I SL)
def RMc (σ : St) (I : ab_II) (SL : Nat → List Nat) : Prop := mLog σ I ∧ mDat σ I ∧ mSl σ I SL ∧ mFld σ I ∧ mJob σ I SL
def mDn (σ : St) (I : ab_II) : Prop := σ.job = true → I 39 23 = nI σ.don ∧ I 39 31 = (if σ.don = σ.src.length then 1 else 0)
def RM (σ : St) (I : ab_II) (SL : Nat → List Nat) : Prop := RMc σ I SL ∧ mDn σ I
/-- only the reference's cells change -/
def kC (I I' : ab_II) : Prop := ∀ j, (j < 39 ∨ 66 ≤ j) → I' j = I j
theorem kC.rf {I : ab_II} : kC I I := fun _ _ => rfl
theorem kC.tr {I I' I'' : ab_II} (h : kC I I') (h' : kC I' I'') : kC I I'' := fun j hj => (h' j hj).trans (h j hj)
theorem kC.u {I : ab_II} {r k : Nat} {x : Int32} (h : 39 ≤ r ∧ r < 66) : kC I (ab_u2 I r k x) := fun j hj => ab_u2_r _ _ (by omega)
/-- these cells, and these fields of the reference, change -/
def fM (I I' : ab_II) (C K : List Nat) : Prop := (∀ j, j ∉ C → j ≠ 39 → I' j = I j) ∧ ∀ k, k ∉ K → I' 39 k = I 39 k
theorem fM.rf {I : ab_II} {C K : List Nat} : fM I I C K := ⟨fun _ _ _ => rfl, fun _ _ => rfl⟩
theorem fM.tr {I I' I'' : ab_II} {C K C' K' C'' K'' : List Nat} (h : fM I I' C K) (h' : fM I' I'' C' K') (h1 : ∀ j ∈ C, j ∈ C'') (h2 : ∀ j ∈ C', j ∈ C'') (h3 : ∀ j ∈ K, j ∈ K'') (h4 : ∀ j ∈ K', j ∈ K'') : fM I I'' C'' K'' :=
  ⟨fun j hj h39 => (h'.1 j (fun q => hj (h2 j q)) h39).trans (h.1 j (fun q => hj (h1 j q)) h39), fun k hk => (h'.2 k (fun q => hk (h4 k q))).trans (h.2 k (fun q => hk (h3 k q)))⟩
theorem fM.tr1 {I I' I'' : ab_II} {C K : List Nat} (h : fM I I' C K) (h' : fM I' I'' C K) : fM I I'' C K := h.tr h' (fun _ q => q) (fun _ q => q) (fun _ q => q) (fun _ q => q)
theorem fM.ua {I : ab_II} {C K : List Nat} {r k : Nat} {x : Int32} (h : r ∈ C) (h39 : r ≠ 39) : fM I (ab_u2 I r k x) C K := ⟨fun j hj _ => ab_u2_r _ _ (fun q => hj (q ▸ h)), fun i _ => by rw [ab_u2_r _ _ (Ne.symm h39)]⟩
theorem fM.uf {I : ab_II} {C K : List Nat} {k : Nat} {x : Int32} (h : k ∈ K) : fM I (ab_u2 I 39 k x) C K := ⟨fun j _ h39 => ab_u2_r _ _ h39, fun i hi => ab_u2_n _ _ (Or.inr (fun q => hi (q ▸ h)))⟩
theorem fM.kC {I I' : ab_II} {C K : List Nat} (h : fM I I' C K) (hc : ∀ j ∈ C, 39 ≤ j ∧ j < 66) : kC I I' := fun j hj => h.1 j (fun q => by have := hc j q; omega) (by omega)
theorem arr3.keep {I I' : ab_II} {a b c off : Nat} {es : List En} (h : arr3 I a b c off es) (h1 : I' a = I a) (h2 : I' b = I b) (h3 : I' c = I c) : arr3 I' a b c off es := fun j e he => by rw [h1, h2, h3]; exact h j e he
theorem slOK.keep {I I' : ab_II} {f : Nat} {F : FA} (h : slOK I f F) (hk : ∀ j, 45 ≤ j → j ≤ 51 → I' j = I j) : slOK I' f F := by
  obtain ⟨h1, h2, h3, h4, h5, h6⟩ := h
  exact ⟨by rw [hk _ (by omega) (by omega)]; exact h1, by rw [hk _ (by omega) (by omega)]; exact h2, by rw [hk _ (by omega) (by omega)]; exact h3, by rw [hk _ (by omega) (by omega)]; exact h4, h5, h6.keep (hk _ (by omega) (by omega)) (hk _ (by omega) (by omega)) (hk _ (by omega) (by omega))⟩
theorem mSl.keep {σ : St} {I I' : ab_II} {SL : Nat → List Nat} (h : mSl σ I SL) (hk : ∀ j, 44 ≤ j → j ≤ 51 → I' j = I j) : mSl σ I' SL := by
  refine ⟨fun k hkk => ⟨(h.1 k hkk).1, (h.1 k hkk).2.1, fun a f F ha hF => ?_⟩, fun f hf => by rw [hk 44 (by omega) (by omega)]; exact h.2 f hf⟩
  obtain ⟨h1, h2, h3⟩ := (h.1 k hkk).2.2 a f F ha hF
  exact ⟨h1, by rw [hk 44 (by omega) (by omega)]; exact h2, h3.keep (fun j h4 h5 => hk j (by omega) h5)⟩
theorem mJ2.keep {σ : St} {I I' : ab_II} {SL : Nat → List Nat} (h : mJ2 σ I SL) (hk : ∀ j, 54 ≤ j → j ≤ 61 → I' j = I j) (h1 : I' 39 21 = I 39 21) (h2 : I' 39 22 = I 39 22) (h3 : I' 39 29 = I 39 29) (h4 : I' 39 32 = I 39 32) : mJ2 σ I' SL := by
  obtain ⟨a1, a2, a3, a4, a5, a6, a7, a8⟩ := h
  exact ⟨by rw [h1]; exact a1, by rw [h2]; exact a2, a3.keep (hk _ (by omega) (by omega)) (hk _ (by omega) (by omega)) (hk _ (by omega) (by omega)), fun k q => by rw [hk 58 (by omega) (by omega)]; exact a4 k q, fun q => by rw [h3]; exact a5 q, by rw [h4]; exact a6, a7.keep (hk _ (by omega) (by omega)) (hk _ (by omega) (by omega)) (hk _ (by omega) (by omega)), fun f q => by rw [hk 57 (by omega) (by omega)]; exact a8 f q⟩
theorem RMc.keep {σ : St} {I I' : ab_II} {SL : Nat → List Nat} (h : RMc σ I SL) {C K : List Nat} (hf : fM I I' C K) (hC : ∀ j ∈ C, j = 53 ∨ 62 ≤ j ∨ j < 39) (hK : ∀ k ∈ K, k = 0 ∨ k = 18 ∨ k = 23 ∨ k = 31 ∨ k = 36) : RMc σ I' SL := by
  have ha : ∀ j, 40 ≤ j → j ≤ 61 → j ≠ 53 → I' j = I j := fun j h1 h2 h3 => hf.1 j (fun q => by have := hC j q; omega) (by omega)
  have hk : ∀ k, k ≠ 0 → k ≠ 18 → k ≠ 23 → k ≠ 31 → k ≠ 36 → I' 39 k = I 39 k := fun k h1 h2 h3 h4 h5 => hf.2 k (fun q => by have := hK k q; omega)
  obtain ⟨h1, h2, h3, h4, h5⟩ := h
  refine ⟨⟨by rw [hk 1 (by decide) (by decide) (by decide) (by decide) (by decide)]; exact h1.1, h1.2.keep (ha _ (by omega) (by omega) (by omega)) (ha _ (by omega) (by omega) (by omega)) (ha _ (by omega) (by omega) (by omega))⟩, ⟨by rw [hk 2 (by decide) (by decide) (by decide) (by decide) (by decide)]; exact h2.1, by rw [hk 6 (by decide) (by decide) (by decide) (by decide) (by decide)]; exact h2.2.1, fun k q => by rw [ha 43 (by omega) (by omega) (by omega)]; exact h2.2.2 k q⟩, h3.keep (fun j q1 q2 => ha j (by omega) (by omega) (by omega)), ⟨by rw [hk 16 (by decide) (by decide) (by decide) (by decide) (by decide)]; exact h4.1, fun j q => by rw [ha 52 (by omega) (by omega) (by omega)]; exact h4.2 j q⟩, ⟨by rw [hk 20 (by decide) (by decide) (by decide) (by decide) (by decide)]; exact h5.1, by rw [hk 30 (by decide) (by decide) (by decide) (by decide) (by decide)]; exact h5.2.1, fun q => (h5.2.2 q).keep (fun j q1 q2 => ha j (by omega) (by omega) (by omega)) (hk _ (by decide) (by decide) (by decide) (by decide) (by decide)) (hk _ (by decide) (by decide) (by decide) (by decide) (by decide)) (hk _ (by decide) (by decide) (by decide) (by decide) (by decide)) (hk _ (by decide) (by decide) (by decide) (by decide) (by decide))⟩⟩
theorem RM.keep {σ : St} {I I' : ab_II} {SL : Nat → List Nat} (h : RM σ I SL) {C K : List Nat} (hf : fM I I' C K) (hC : ∀ j ∈ C, j = 53 ∨ 62 ≤ j ∨ j < 39) (hK : ∀ k ∈ K, k = 0 ∨ k = 18 ∨ k = 36) : RM σ I' SL :=
  ⟨h.1.keep hf hC (fun k q => by have := hK k q; omega), fun q => ⟨by rw [hf.2 23 (fun z => by have := hK 23 z; omega)]; exact (h.2 q).1, by rw [hf.2 31 (fun z => by have := hK 31 z; omega)]; exact (h.2 q).2⟩⟩
/-- the answer and the state after a call of the reference -/
def mP (I : ab_II) (n : Nat) (S : ab_SH) (R : ab_RR) (a : Int32 × St) (v : Option Value) (h : ab_M) : Prop := v = some (.int a.1) ∧ ∃ I' SL, h = (n, S, R, I') ∧ RM a.2 I' SL ∧ kC I I'
section MO
variable {σ : St} {n : Nat} {S : ab_SH} {R : ab_RR} {I : ab_II} {SL : Nat → List Nat}
theorem mP.id (h : RM σ I SL) {a : Int32 × St} {x : Int32} (e : a = (x, σ)) {I0 : ab_II} (hk : kC I0 I) : mP I0 n S R a (some (.int x)) (n, S, R, I) := by rw [e]; exact ⟨rfl, I, SL, rfl, h, hk⟩
theorem lg_lt {x y : Int64} : (lg_cmp x y).toInt < 0 ↔ x.toInt < y.toInt := by
  have h := lg_cmp_lt x y
  rw [Int32.lt_iff_toInt_lt, Int64.lt_iff_toInt_lt, tl_0] at h
  exact h
theorem lg_gt {x y : Int64} : 0 < (lg_cmp x y).toInt ↔ y.toInt < x.toInt := by
  have h := lg_cmp_gt x y
  rw [Int32.lt_iff_toInt_lt, Int64.lt_iff_toInt_lt, tl_0] at h
  exact h
theorem s_in (x y z : Int64) : wp 0 0 0 0 MX7_in 0 [(0, .long x), (2, .long y), (4, .long z)] [] (n, S, R, I) (fun v h => h = (n, S, R, I) ∧ v = some (.int (if y.toInt ≤ x.toInt ∧ x.toInt ≤ z.toInt then 1 else 0))) := by
  refine wp_lload_n (pc := 0) dX7_in_0 rfl ?_
  refine wp_lload_n (pc := 1) dX7_in_1 rfl ?_
  refine wp_lcmp (pc := 2) dX7_in_2 ?_
  refine wp_if_lt (pc := 3) (tgt := 17) dX7_in_3 (by decide) (fun hc => ?_) (fun hc => ?_)
  · have h1 := lg_lt.mp hc
    refine wp_iconst (pc := 17) (v := 0) dX7_in_17 (by decide) ?_
    refine wp_ret (pc := 18) dX7_in_18 rfl (by first | trivial | exact Or.inl rfl | exact Or.inr rfl | assumption) ?_
    first | exact ⟨rfl, by rw [if_neg (by omega)]⟩ | exact ⟨rfl, by rw [if_pos (by omega)]⟩
  · have h1 : ¬ x.toInt < y.toInt := fun q => by have := lg_lt.mpr q; omega
    refine wp_lload_n (pc := 6) dX7_in_6 rfl ?_
    refine wp_lload (pc := 7) dX7_in_7 rfl ?_
    refine wp_lcmp (pc := 9) dX7_in_9 ?_
    refine wp_if_gt (pc := 10) (tgt := 17) dX7_in_10 (by decide) (fun hc => ?_) (fun hc => ?_)
    · have h2 := lg_gt.mp hc
      refine wp_iconst (pc := 17) (v := 0) dX7_in_17 (by decide) ?_
      refine wp_ret (pc := 18) dX7_in_18 rfl (by first | trivial | exact Or.inl rfl | exact Or.inr rfl | assumption) ?_
      first | exact ⟨rfl, by rw [if_neg (by omega)]⟩ | exact ⟨rfl, by rw [if_pos (by omega)]⟩
    · have h2 : ¬ z.toInt < x.toInt := fun q => by have := lg_gt.mpr q; omega
      refine wp_iconst (pc := 13) (v := 1) dX7_in_13 (by decide) ?_
      refine wp_goto (pc := 14) (tgt := 18) dX7_in_14 (by decide) ?_
      refine wp_ret (pc := 18) dX7_in_18 rfl (by first | trivial | exact Or.inl rfl | exact Or.inr rfl | assumption) ?_
      first | exact ⟨rfl, by rw [if_neg (by omega)]⟩ | exact ⟨rfl, by rw [if_pos (by omega)]⟩
end MO
