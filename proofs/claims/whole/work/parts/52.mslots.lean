/-! THE SLOTS OF THE REFERENCE -/
theorem lvc_cases {k : Nat} (hk : lvk k) : (k = 5 ∧ lvc k = 9) ∨ (k < 4 ∧ k ≠ 5 ∧ lvc k = nI k ∧ (lvc k).toInt = k) := by
  rcases hk with h | h
  · have e : lvc k = nI k := by unfold lvc; rw [if_neg (by omega)]
    exact Or.inr ⟨h, by omega, e, by rw [e, tI_n (by omega)]⟩
  · exact Or.inl ⟨h, by unfold lvc; rw [if_pos h]⟩
theorem lvc_inj {i j : Nat} (hi : lvk i) (hj : lvk j) (h : lvc i = lvc j) : i = j := by
  rcases lvc_cases hi with ⟨a, b⟩ | ⟨a, -, -, b⟩
  · rcases lvc_cases hj with ⟨a', b'⟩ | ⟨a', -, -, b'⟩
    · omega
    · rw [← h, b, tl_9] at b'; omega
  · rcases lvc_cases hj with ⟨a', b'⟩ | ⟨a', -, -, b'⟩
    · rw [h, b', tl_9] at b; omega
    · rw [h, b'] at b; omega
theorem lvc_pos {k : Nat} (hk : lvk k) : 0 ≤ (lvc k).toInt := by
  rcases lvc_cases hk with ⟨a, b⟩ | ⟨a, -, -, b⟩
  · rw [b, tl_9]; decide
  · rw [b]; omega
theorem fold_zip {α β γ : Type} {g : γ → α → γ} {g' : γ → β → γ} : ∀ {l : List α} {fs : List β}, l.length = fs.length → (∀ (a : Nat) (f : α) (F : β), l[a]? = some f → fs[a]? = some F → ∀ m, g m f = g' m F) → ∀ x, l.foldl g x = fs.foldl g' x
  | [], [], _, _, _ => rfl
  | [], _ :: _, h, _, _ => by simp at h
  | _ :: _, [], h, _, _ => by simp at h
  | f :: l, F :: fs, h, hp, x => by
    rw [List.foldl_cons, List.foldl_cons, hp 0 f F rfl rfl x]
    exact fold_zip (by simpa using h) (fun a f' F' h1 h2 m => hp (a + 1) f' F' (by simpa using h1) (by simpa using h2) m) _
theorem flat_zip {α β γ : Type} {g : α → List γ} {g' : β → List γ} : ∀ {l : List α} {fs : List β}, l.length = fs.length → (∀ (a : Nat) (f : α) (F : β), l[a]? = some f → fs[a]? = some F → g f = g' F) → l.flatMap g = fs.flatMap g'
  | [], [], _, _ => rfl
  | [], _ :: _, h, _ => by simp at h
  | _ :: _, [], h, _ => by simp at h
  | f :: l, F :: fs, h, hp => by
    rw [List.flatMap_cons, List.flatMap_cons, hp 0 f F rfl rfl, flat_zip (l := l) (fs := fs) (by simpa using h) (fun a f' F' h1 h2 => hp (a + 1) f' F' (by simpa using h1) (by simpa using h2))]
/-- what a slot holds -/
def slE (I : ab_II) (f : Nat) : List En := (List.range (I 48 f).toInt.toNat).map (fun j => (I 49 (30 * f + j), I 50 (30 * f + j), I 51 (30 * f + j)))
def slT (I : ab_II) (p : Int32 → Bool) (t : Nat) : List Nat := (List.range t).filter (fun f => p (I 44 f))
theorem slT_y {I : ab_II} {p : Int32 → Bool} {t : Nat} (h : p (I 44 t) = true) : slT I p (t + 1) = slT I p t ++ [t] := by
  unfold slT
  rw [List.range_succ, List.filter_append]
  simp [h]
theorem slT_n {I : ab_II} {p : Int32 → Bool} {t : Nat} (h : p (I 44 t) = false) : slT I p (t + 1) = slT I p t := by
  unfold slT
  rw [List.range_succ, List.filter_append]
  simp [h]
abbrev pF (x : Int32) : Bool := decide (0 ≤ x.toInt ∧ x.toInt ≤ 3)
abbrev pA (x : Int32) : Bool := decide (0 ≤ x.toInt)
abbrev p9 (x : Int32) : Bool := decide (x = 9)
section M2
variable {σ : St} {n : Nat} {S : ab_SH} {R : ab_RR} {I : ab_II} {SL : Nat → List Nat}
theorem mSl.mem (h : mSl σ I SL) {k : Nat} (hk : lvk k) {f : Nat} (hf : f ∈ SL k) : f < 330 ∧ I 44 f = lvc k ∧ ∃ (a : Nat) (F : FA), (SL k)[a]? = some f ∧ (σ.FS k)[a]? = some F ∧ slOK I f F := by
  obtain ⟨a, ha⟩ := List.getElem?_of_mem hf
  have hl := (List.getElem?_eq_some_iff.mp ha).1
  rw [(h.1 k hk).1] at hl
  have hF := List.getElem?_eq_getElem hl
  obtain ⟨h1, h2, h3⟩ := (h.1 k hk).2.2 a f _ ha hF
  exact ⟨h1, h2, a, _, ha, hF, h3⟩
theorem mSl.iff (h : mSl σ I SL) {k : Nat} (hk : lvk k) {f : Nat} : f ∈ SL k ↔ f < 330 ∧ I 44 f = lvc k := by
  constructor
  · intro q
    exact ⟨(h.mem hk q).1, (h.mem hk q).2.1⟩
  · rintro ⟨q1, q2⟩
    rcases h.2 f q1 with e | ⟨j, hj, hm⟩
    · rw [e] at q2
      have := lvc_pos hk
      rw [← q2] at this
      exact absurd this (by decide)
    · have := (h.mem hj hm).2.1
      rw [lvc_inj hk hj (q2.symm.trans this)]
      exact hm
theorem slOK.eE {f : Nat} {F : FA} (h : slOK I f F) : slE I f = F.es := by
  obtain ⟨-, -, -, h4, h5, h6⟩ := h
  unfold slE
  apply List.ext_getElem?
  intro j
  rw [h4, tI_n (by omega), Int.toNat_natCast, List.getElem?_map]
  by_cases hj : j < F.es.length
  · rw [List.getElem?_range hj, List.getElem?_eq_getElem hj]
    obtain ⟨a1, a2, a3⟩ := h6 j _ (List.getElem?_eq_getElem hj)
    simp only [Option.map_some, a1, a2, a3]
  · rw [List.getElem?_eq_none (by simpa using hj), List.getElem?_eq_none (by omega)]
    rfl
theorem mSl.nd (h : mSl σ I SL) : (SL 0 ++ SL 1 ++ SL 2 ++ SL 3).Nodup := by
  have key : ∀ {i j : Nat}, lvk i → lvk j → i ≠ j → ∀ f ∈ SL i, ∀ g ∈ SL j, f ≠ g := fun hi hj hij f hf g hg e => by
    subst e
    exact hij (lvc_inj hi hj ((h.mem hi hf).2.1.symm.trans (h.mem hj hg).2.1))
  have n0 := (h.1 0 (by decide)).2.1
  have n1 := (h.1 1 (by decide)).2.1
  have n2 := (h.1 2 (by decide)).2.1
  have n3 := (h.1 3 (by decide)).2.1
  unfold List.Nodup at *
  rw [List.pairwise_append, List.pairwise_append, List.pairwise_append]
  refine ⟨⟨⟨n0, n1, key (by decide) (by decide) (by decide)⟩, n2, fun f hf g hg => ?_⟩, n3, fun f hf g hg => ?_⟩
  · rcases List.mem_append.mp hf with q | q
    · exact key (by decide) (by decide) (by decide) f q g hg
    · exact key (by decide) (by decide) (by decide) f q g hg
  · rcases List.mem_append.mp hf with q | q
    · rcases List.mem_append.mp q with q | q
      · exact key (by decide) (by decide) (by decide) f q g hg
      · exact key (by decide) (by decide) (by decide) f q g hg
    · exact key (by decide) (by decide) (by decide) f q g hg
theorem slT_nd (p : Int32 → Bool) (t : Nat) : (slT I p t).Nodup := List.Nodup.sublist List.filter_sublist List.nodup_range
theorem slT_mem {p : Int32 → Bool} {t f : Nat} : f ∈ slT I p t ↔ f < t ∧ p (I 44 f) = true := by
  unfold slT
  rw [List.mem_filter, List.mem_range]
theorem mSl.pf (h : mSl σ I SL) : (slT I pF 330).Perm (SL 0 ++ SL 1 ++ SL 2 ++ SL 3) := by
  refine (List.perm_ext_iff_of_nodup (slT_nd _ _) h.nd).mpr (fun f => ?_)
  rw [slT_mem]
  simp only [List.mem_append, decide_eq_true_eq]
  rw [h.iff (k := 0) (by decide), h.iff (k := 1) (by decide), h.iff (k := 2) (by decide), h.iff (k := 3) (by decide)]
  have c : ∀ k, k < 4 → lvc k = nI k := fun k hk => by unfold lvc; rw [if_neg (by omega)]
  rw [c 0 (by decide), c 1 (by decide), c 2 (by decide), c 3 (by decide)]
  constructor
  · rintro ⟨q1, q2, q3⟩
    have : (I 44 f).toInt = 0 ∨ (I 44 f).toInt = 1 ∨ (I 44 f).toInt = 2 ∨ (I 44 f).toInt = 3 := by omega
    rcases this with e | e | e | e
    · exact Or.inl (Or.inl (Or.inl ⟨q1, tI_N e⟩))
    · exact Or.inl (Or.inl (Or.inr ⟨q1, tI_N e⟩))
    · exact Or.inl (Or.inr ⟨q1, tI_N e⟩)
    · exact Or.inr ⟨q1, tI_N e⟩
  · rintro (((⟨q1, q2⟩ | ⟨q1, q2⟩) | ⟨q1, q2⟩) | ⟨q1, q2⟩) <;> exact ⟨q1, by rw [q2, tI_n (by decide)]; decide⟩
theorem mSl.pm9 (h : mSl σ I SL) : (slT I p9 330).Perm (SL 5) := by
  refine (List.perm_ext_iff_of_nodup (slT_nd _ _) (h.1 5 (by decide)).2.1).mpr (fun f => ?_)
  rw [slT_mem, h.iff (k := 5) (by decide)]
  simp [lvc]
theorem mSl.flat (h : mSl σ I SL) {k : Nat} (hk : lvk k) : (SL k).flatMap (slE I) = (σ.FS k).flatMap FA.es := flat_zip (h.1 k hk).1 (fun a f F h1 h2 => ((h.1 k hk).2.2 a f F h1 h2).2.2.eE)
theorem mSl.permE (h : mSl σ I SL) : ((slT I pF 330).flatMap (slE I)).Perm ((σ.FS 0 ++ σ.FS 1 ++ σ.FS 2 ++ σ.FS 3).flatMap FA.es) := by
  refine (h.pf.flatMap_right (slE I)).trans (List.Perm.of_eq ?_)
  rw [List.flatMap_append, List.flatMap_append, List.flatMap_append, List.flatMap_append, List.flatMap_append, List.flatMap_append, h.flat (by decide), h.flat (by decide), h.flat (by decide), h.flat (by decide)]
theorem mSl.small (h : mSl σ I SL) {f : Nat} (hf : f < 330) (hp : 0 ≤ (I 44 f).toInt) : ∃ k, lvk k ∧ f ∈ SL k := by
  rcases h.2 f hf with e | e
  · rw [e] at hp; exact absurd hp (by decide)
  · exact e
theorem mSl.many (h : mSl σ I SL) {f : Nat} (hf : f < 330) (hp : 0 ≤ (I 44 f).toInt) : ∃ m : Nat, m ≤ 24 ∧ I 48 f = nI m ∧ (slE I f).length = m := by
  obtain ⟨k, hk, hm⟩ := h.small hf hp
  obtain ⟨-, -, a, F, -, -, hs⟩ := h.mem hk hm
  exact ⟨F.es.length, hs.2.2.2.2.1, hs.2.2.2.1, by rw [hs.eE]⟩
theorem smB_sh (fs : List FA) : ∀ x, fs.foldl smB x = x + fs.foldl smB 0 := by
  induction fs with
  | nil => intro x; simp
  | cons F fs ih =>
    intro x
    rw [List.foldl_cons, List.foldl_cons, ih (smB x F), ih (smB 0 F)]
    unfold smB
    rw [Int32.add_assoc, Int32.zero_add]
theorem smE_sh (fs : List FA) : ∀ x, fs.foldl smE x = x + fs.foldl smE 0 := by
  induction fs with
  | nil => intro x; simp
  | cons F fs ih =>
    intro x
    rw [List.foldl_cons, List.foldl_cons, ih (smE x F), ih (smE 0 F)]
    unfold smE
    rw [Int32.add_assoc, Int32.zero_add]
theorem add_swap (z x y : Int32) : z + x + y = z + y + x := by rw [Int32.add_assoc, Int32.add_comm x y, ← Int32.add_assoc]
theorem mSl.sumB (h : mSl σ I SL) : (slT I pF 330).foldl (fun m f => m + I 47 f) 0 = nBy σ.FS := by
  rw [h.pf.foldl_eq' (fun x _ y _ z => add_swap z _ _) 0, List.foldl_append, List.foldl_append, List.foldl_append]
  have key : ∀ {k : Nat}, lvk k → ∀ x, (SL k).foldl (fun m f => m + I 47 f) x = (σ.FS k).foldl smB x := fun {k} hk x => fold_zip (h.1 k hk).1 (fun a f F h1 h2 m => by rw [((h.1 k hk).2.2 a f F h1 h2).2.2.2.2.1]; rfl) x
  rw [key (by decide), key (by decide), key (by decide), key (by decide), smB_sh (σ.FS 3), smB_sh (σ.FS 2), smB_sh (σ.FS 1)]
  rfl
theorem mSl.sumE (h : mSl σ I SL) : (slT I pF 330).foldl (fun m f => m + I 48 f) 0 = nEn σ.FS := by
  rw [h.pf.foldl_eq' (fun x _ y _ z => add_swap z _ _) 0, List.foldl_append, List.foldl_append, List.foldl_append]
  have key : ∀ {k : Nat}, lvk k → ∀ x, (SL k).foldl (fun m f => m + I 48 f) x = (σ.FS k).foldl smE x := fun {k} hk x => fold_zip (h.1 k hk).1 (fun a f F h1 h2 m => by rw [((h.1 k hk).2.2 a f F h1 h2).2.2.2.2.2.1]; rfl) x
  rw [key (by decide), key (by decide), key (by decide), key (by decide), smE_sh (σ.FS 3), smE_sh (σ.FS 2), smE_sh (σ.FS 1)]
  rfl
theorem mSl.num (h : mSl σ I SL) : (slT I pF 330).length = (σ.FS 0).length + (σ.FS 1).length + (σ.FS 2).length + (σ.FS 3).length := by
  rw [h.pf.length_eq]
  simp only [List.length_append]
  rw [(h.1 0 (by decide)).1, (h.1 1 (by decide)).1, (h.1 2 (by decide)).1, (h.1 3 (by decide)).1]
/-! giveUp, stop -/
theorem RM.giveUp (h : RM σ I SL) (hnf : (σ.FS 5).length ≤ σ.nf) {I' : ab_II} (hf : fM I I' [44] [16, 20, 30]) (h44 : ∀ f, f < 330 → I' 44 f = if I 44 f = 9 then -1 else I 44 f) (h16 : I' 39 16 = I 39 16 - nI (slT I p9 330).length) (h20 : I' 39 20 = 0) (h30 : I' 39 30 = 0) : RM σ.giveUp I' (va_up SL 5 []) := by
  have ka : ∀ j, j ≠ 44 → j ≠ 39 → I' j = I j := fun j h1 h2 => hf.1 j (by simp [h1]) h2
  have kf : ∀ k, k ≠ 16 → k ≠ 20 → k ≠ 30 → I' 39 k = I 39 k := fun k h1 h2 h3 => hf.2 k (by simp [h1, h2, h3])
  have ss := h.sl
  refine ⟨⟨⟨by rw [kf 1 (by decide) (by decide) (by decide)]; exact h.lg.1, h.lg.2.keep (ka _ (by decide) (by decide)) (ka _ (by decide) (by decide)) (ka _ (by decide) (by decide))⟩, ⟨by rw [kf 2 (by decide) (by decide) (by decide)]; exact h.dt.1, by rw [kf 6 (by decide) (by decide) (by decide)]; exact h.dt.2.1, fun k q => by rw [ka 43 (by decide) (by decide)]; exact h.dt.2.2 k q⟩, ⟨fun k hk => ?_, fun f hf => ?_⟩, ⟨?_, fun j q => by rw [ka 52 (by decide) (by decide)]; exact h.fd.2 j q⟩, ⟨h20, h30, fun q => by cases q⟩⟩, fun q => by cases q⟩
  · show (va_up SL 5 [] k).length = (va_up σ.FS 5 [] k).length ∧ (va_up SL 5 [] k).Nodup ∧ ∀ (a f : Nat) (F : FA), (va_up SL 5 [] k)[a]? = some f → (va_up σ.FS 5 [] k)[a]? = some F → _
    by_cases h5 : k = 5
    · subst h5
      rw [up_at, up_at]
      exact ⟨rfl, List.nodup_nil, fun a f F q => by simp at q⟩
    · rw [up_ne h5, up_ne h5]
      refine ⟨(ss.1 k hk).1, (ss.1 k hk).2.1, fun a f F q1 q2 => ?_⟩
      obtain ⟨g1, g2, g3⟩ := (ss.1 k hk).2.2 a f F q1 q2
      refine ⟨g1, ?_, g3.keep (fun j a1 a2 => ka j (by omega) (by omega))⟩
      rw [h44 f g1, g2, if_neg (fun e : lvc k = 9 => h5 (lvc_inj hk (Or.inr rfl) (show lvc k = lvc 5 from e)))]
  · rw [h44 f hf]
    by_cases q : I 44 f = 9
    · rw [if_pos q]; exact Or.inl rfl
    · rw [if_neg q]
      rcases ss.2 f hf with e | ⟨k, hk, hm⟩
      · exact Or.inl e
      · refine Or.inr ⟨k, hk, ?_⟩
        rw [up_ne (fun e => q (by rw [e] at hm; exact (ss.mem (Or.inr rfl) hm).2.1))]
        exact hm
  · rw [h16, h.fd.1, ss.pm9.length_eq, (ss.1 5 (Or.inr rfl)).1]
    exact pk_sub hnf
theorem RM.giveUp0 (h : RM σ I SL) (hj : σ.job = false) (h5 : σ.FS 5 = []) : RM σ.giveUp I SL := by
  have e : va_up σ.FS 5 [] = σ.FS := by
    funext k
    by_cases hk : k = 5
    · rw [hk, up_at, h5]
    · rw [up_ne hk]
  have e2 : σ.giveUp = (σ.F σ.FS σ.B σ.nf).fin := by unfold St.giveUp; rw [e, h5]; rfl
  rw [e2]
  exact ⟨⟨h.lg, h.dt, h.sl, h.fd, ⟨by rw [h.jb.1, hj]; rfl, h.jb.2.1, fun q => by cases q⟩⟩, fun q => by cases q⟩
theorem m_giveUp_loop (hX : Fx n S R) (x : Int32) {I0 : ab_II} (post : ab_Po) (hpost : ∀ I', fM I0 I' [44] [16] → (∀ f, f < 330 → I' 44 f = if I0 44 f = 9 then -1 else I0 44 f) → I' 39 16 = I0 39 16 - nI (slT I0 p9 330).length → ∀ L, ab_sub L [(0, .ref 39), (1, .int x)] → wp 0 0 0 0 MX7_giveUp 57 L [] (n, S, R, I') post) :
    ∀ (d t : Nat) (y : Int32) (I : ab_II) (L : List (Nat × Value)), 330 = t + d → y = nI t → fM I0 I [44] [16] → (∀ f, I 44 f = if f < t ∧ I0 44 f = 9 then -1 else I0 44 f) → I 39 16 = I0 39 16 - nI (slT I0 p9 t).length → ab_sub L [(0, .ref 39), (1, .int x), (2, .int y)] → wp 0 0 0 0 MX7_giveUp 16 L [] (n, S, R, I) post := by
  have z : (S 44).2 = 330 := hX.len (by decide)
  have t330 : (330 : Int32).toInt = 330 := by decide +kernel
  intro d
  induction d with
  | zero =>
    intro t y I L ht hy hf h44 h16 hL0
    refine wp_loc hL0 ?_
    have ey : y.toInt = t := by rw [hy, tI_n (by omega)]
    refine wp_iload_n (pc := 16) dX7_giveUp_16 rfl ?_
    refine wp_sipush (pc := 17) (v := 330) dX7_giveUp_17 (by decide) ?_
    refine wp_icmp_ge (pc := 20) (tgt := 57) dX7_giveUp_20 (by decide) (fun hc => ?_) (fun hc => ?_)
    · skip
      exact hpost I hf (fun f hf => by rw [h44 f]; by_cases q : I0 44 f = 9 <;> simp [q]; omega) (by rw [h16, show t = 330 by omega]) _ ⟨rfl, rfl, trivial⟩
    · rw [t330] at hc; omega
  | succ d ih =>
    intro t y I L ht hy hf h44 h16 hL0
    refine wp_loc hL0 ?_
    have ey : y.toInt = t := by rw [hy, tI_n (by omega)]
    have cy : y.toNatClampNeg = t := by rw [tI_c]; omega
    have et : I 44 t = I0 44 t := by rw [h44 t, if_neg (by omega)]
    refine wp_iload_n (pc := 16) dX7_giveUp_16 rfl ?_
    refine wp_sipush (pc := 17) (v := 330) dX7_giveUp_17 (by decide) ?_
    refine wp_icmp_ge (pc := 20) (tgt := 57) dX7_giveUp_20 (by decide) (fun hc => ?_) (fun hc => ?_)
    · rw [t330] at hc; omega
    · skip
      first | refine wp_aload_n (pc := 23) dX7_giveUp_23 rfl ?_ | refine wp_aload_nN (pc := 23) dX7_giveUp_23 rfl ?_
      refine wp_getR (pc := 24) dX7_giveUp_24 fl_LevelStoreModel_22 (by first | assumption | exact Fx.ok (by assumption) (by decide)) rfl (by first | assumption | exact Fx.ref (by assumption) rfl) ?_
      refine wp_iload_n (pc := 27) dX7_giveUp_27 rfl ?_
      refine wp_iaload (pc := 28) dX7_giveUp_28 (by first | assumption | exact Fx.ok (by assumption) (by decide)) (in_I (by omega) (by rw [z]; omega)) ?_
      refine wp_bipush (pc := 29) (v := 9) dX7_giveUp_29 (by decide) ?_
      rw [cy, et]
      refine wp_icmp_ne (pc := 31) (tgt := 51) dX7_giveUp_31 (by decide) (fun hc => ?_) (fun hc => ?_)
      · have hne : I0 44 t ≠ 9 := fun q => hc (by rw [q])
        refine wp_iinc (pc := 51) dX7_giveUp_51 rfl (by decide) rfl ?_
        refine wp_goto (pc := 54) (tgt := 16) dX7_giveUp_54 (by decide) ?_
        first
        | refine ih (t + 1) _ _ _ (by omega) (by rw [hy]; exact nI_i1 t) (hf.tr1 ((fM.ua (by simp) (by decide)).tr1 (fM.uf (by simp)))) (fun f => ?_) (ab_u2_s _ _ _ _) ⟨rfl, rfl, rfl, trivial⟩
          rw [ab_u2_r _ _ (by decide)]
          by_cases q : f = t
          · rw [q, ab_u2_s, if_pos ⟨by omega, he⟩]
          · rw [ab_u2_n _ _ (Or.inr q), h44 f]
            by_cases q2 : f < t ∧ I0 44 f = 9
            · rw [if_pos q2, if_pos ⟨by omega, q2.2⟩]
            · rw [if_neg q2, if_neg (fun q3 => q2 ⟨by omega, q3.2⟩)]
        | refine ih (t + 1) _ _ _ (by omega) (by rw [hy]; exact nI_i1 t) hf (fun f => ?_) (by rw [h16, slT_n (by simp [hne])]) ⟨rfl, rfl, rfl, trivial⟩
          rw [h44 f]
          by_cases q2 : f < t ∧ I0 44 f = 9
          · rw [if_pos q2, if_pos ⟨by omega, q2.2⟩]
          · rw [if_neg q2, if_neg (fun q3 => q2 ⟨by have : f ≠ t := fun q4 => hne (q4 ▸ q3.2); omega, q3.2⟩)]
      · have he : I0 44 t = 9 := tI_eq hc
        first | refine wp_aload_n (pc := 34) dX7_giveUp_34 rfl ?_ | refine wp_aload_nN (pc := 34) dX7_giveUp_34 rfl ?_
        refine wp_getR (pc := 35) dX7_giveUp_35 fl_LevelStoreModel_22 (by first | assumption | exact Fx.ok (by assumption) (by decide)) rfl (by first | assumption | exact Fx.ref (by assumption) rfl) ?_
        refine wp_iload_n (pc := 38) dX7_giveUp_38 rfl ?_
        refine wp_iconst (pc := 39) (v := -1) dX7_giveUp_39 (by decide) ?_
        refine wp_iastore (pc := 40) dX7_giveUp_40 (by first | assumption | exact Fx.ok (by assumption) (by decide)) (in_I (by omega) (by rw [z]; omega)) ?_
        first | refine wp_aload_n (pc := 41) dX7_giveUp_41 rfl ?_ | refine wp_aload_nN (pc := 41) dX7_giveUp_41 rfl ?_
        refine wp_dup (pc := 42) dX7_giveUp_42 rfl ?_
        refine wp_getI (pc := 43) dX7_giveUp_43 fl_LevelStoreModel_201 (by first | assumption | exact Fx.ok (by assumption) (by decide)) rfl ?_
        rw [cy, ab_u2_r _ _ (by decide), h16]
        refine wp_iconst (pc := 46) (v := 1) dX7_giveUp_46 (by decide) ?_
        refine wp_isub (pc := 47) dX7_giveUp_47 ?_
        rw [Int32.sub_sub, show nI (slT I0 p9 t).length + 1 = nI (slT I0 p9 (t + 1)).length by rw [slT_y (by simp [he]), List.length_append]; exact nI_1 _]
        refine wp_putI (pc := 48) dX7_giveUp_48 fl_LevelStoreModel_201 (by first | assumption | exact Fx.ok (by assumption) (by decide)) rfl rfl (Or.inl rfl) ?_
        refine wp_iinc (pc := 51) dX7_giveUp_51 rfl (by decide) rfl ?_
        refine wp_goto (pc := 54) (tgt := 16) dX7_giveUp_54 (by decide) ?_
        first
        | refine ih (t + 1) _ _ _ (by omega) (by rw [hy]; exact nI_i1 t) (hf.tr1 ((fM.ua (by simp) (by decide)).tr1 (fM.uf (by simp)))) (fun f => ?_) (ab_u2_s _ _ _ _) ⟨rfl, rfl, rfl, trivial⟩
          rw [ab_u2_r _ _ (by decide)]
          by_cases q : f = t
          · rw [q, ab_u2_s, if_pos ⟨by omega, he⟩]
          · rw [ab_u2_n _ _ (Or.inr q), h44 f]
            by_cases q2 : f < t ∧ I0 44 f = 9
            · rw [if_pos q2, if_pos ⟨by omega, q2.2⟩]
            · rw [if_neg q2, if_neg (fun q3 => q2 ⟨by omega, q3.2⟩)]
        | refine ih (t + 1) _ _ _ (by omega) (by rw [hy]; exact nI_i1 t) hf (fun f => ?_) (by rw [h16, slT_n (by simp [hne])]) ⟨rfl, rfl, rfl, trivial⟩
          rw [h44 f]
          by_cases q2 : f < t ∧ I0 44 f = 9
          · rw [if_pos q2, if_pos ⟨by omega, q2.2⟩]
          · rw [if_neg q2, if_neg (fun q3 => q2 ⟨by have : f ≠ t := fun q4 => hne (q4 ▸ q3.2); omega, q3.2⟩)]
theorem jb_f {b : Bool} {x : Int32} (h : x = if b then 1 else 0) (hc : x.toInt = 0) : b = false := by cases b <;> first | rfl | (rw [h] at hc; exact absurd hc (by decide))
theorem jb_t {b : Bool} {x : Int32} (h : x = if b then 1 else 0) (hc : x.toInt ≠ 0) : b = true := by cases b <;> first | rfl | (rw [h] at hc; exact absurd rfl hc)
theorem m_giveUp_end (hX : Fx n S R) {x : Int32} {post : ab_Po} (hpost : post (some (.int x)) (n, S, R, ab_u2 (ab_u2 I 39 20 0) 39 30 0)) : wp 0 0 0 0 MX7_giveUp 57 [(0, .ref 39), (1, .int x)] [] (n, S, R, I) post := by
  first | refine wp_aload_n (pc := 57) dX7_giveUp_57 rfl ?_ | refine wp_aload_nN (pc := 57) dX7_giveUp_57 rfl ?_
  refine wp_iconst (pc := 58) (v := 0) dX7_giveUp_58 (by decide) ?_
  refine wp_putI (pc := 59) dX7_giveUp_59 fl_LevelStoreModel_143 (by first | assumption | exact Fx.ok (by assumption) (by decide)) rfl rfl (Or.inr ⟨rfl, by first | exact Or.inl rfl | exact Or.inr rfl | assumption⟩) ?_
  first | refine wp_aload_n (pc := 62) dX7_giveUp_62 rfl ?_ | refine wp_aload_nN (pc := 62) dX7_giveUp_62 rfl ?_
  refine wp_iconst (pc := 63) (v := 0) dX7_giveUp_63 (by decide) ?_
  refine wp_putI (pc := 64) dX7_giveUp_64 fl_LevelStoreModel_156 (by first | assumption | exact Fx.ok (by assumption) (by decide)) rfl rfl (Or.inl rfl) ?_
  refine wp_iload_n (pc := 67) dX7_giveUp_67 rfl ?_
  refine wp_ret (pc := 68) dX7_giveUp_68 rfl (by first | trivial | exact Or.inl rfl | exact Or.inr rfl | assumption) ?_
  exact hpost
theorem m_giveUp (hX : Fx n S R) (h : RM σ I SL) (h5 : σ.job = false → σ.FS 5 = []) (hnf : (σ.FS 5).length ≤ σ.nf) : wp 0 0 0 0 MX7_giveUp 0 [(0, .ref 39)] [] (n, S, R, I) (mP I n S R (nI (σ.FS 5).length, σ.giveUp)) := by
  first | refine wp_aload_n (pc := 0) dX7_giveUp_0 rfl ?_ | refine wp_aload_nN (pc := 0) dX7_giveUp_0 rfl ?_
  refine wp_getI (pc := 1) dX7_giveUp_1 fl_LevelStoreModel_143 (by first | assumption | exact Fx.ok (by assumption) (by decide)) rfl ?_
  refine wp_if_ne (pc := 4) (tgt := 9) dX7_giveUp_4 (by decide) (fun hc => ?_) (fun hc => ?_)
  · have hj := jb_t h.jb.1 hc
    first | refine wp_aload_n (pc := 9) dX7_giveUp_9 rfl ?_ | refine wp_aload_nN (pc := 9) dX7_giveUp_9 rfl ?_
    refine wp_getI (pc := 10) dX7_giveUp_10 fl_LevelStoreModel_156 (by first | assumption | exact Fx.ok (by assumption) (by decide)) rfl ?_
    rw [h.jb.2.1]
    refine wp_istore_n (pc := 13) dX7_giveUp_13 (by decide) rfl ?_
    refine wp_iconst (pc := 14) (v := 0) dX7_giveUp_14 (by decide) ?_
    refine wp_istore_n (pc := 15) dX7_giveUp_15 (by decide) rfl ?_
    refine m_giveUp_loop hX _ _ (fun I' hf h44 h16 L hL => ?_) 330 0 _ I _ rfl rfl fM.rf (fun f => by rw [if_neg (by omega)]) (by show _ = _ - nI 0; rw [nI_0, Int32.sub_zero]) ⟨rfl, rfl, rfl, trivial⟩
    refine wp_loc hL (m_giveUp_end hX ⟨rfl, _, va_up SL 5 [], rfl, h.giveUp hnf ?_ (fun f q => ?_) ?_ ?_ ?_, ?_⟩)
    · exact (hf.tr (C'' := [44]) (K'' := [16, 20, 30]) ((fM.uf (C := []) (K := [20, 30]) (by simp)).tr1 (fM.uf (by simp))) (fun _ q => q) (by simp) (by simp) (by simp))
    · rw [ab_u2_r _ _ (by decide), ab_u2_r _ _ (by decide)]; exact h44 f q
    · rw [ab_u2_n _ _ (Or.inr (by decide)), ab_u2_n _ _ (Or.inr (by decide))]; exact h16
    · rw [ab_u2_n _ _ (Or.inr (by decide)), ab_u2_s]
    · rw [ab_u2_s]
    · exact ((hf.kC (by simp)).tr (kC.u (by decide))).tr (kC.u (by decide))
  · have hj := jb_f h.jb.1 hc
    refine wp_iconst (pc := 7) (v := 0) dX7_giveUp_7 (by decide) ?_
    refine wp_ret (pc := 8) dX7_giveUp_8 rfl (by first | trivial | exact Or.inl rfl | exact Or.inr rfl | assumption) ?_
    exact ⟨by rw [h5 hj]; rfl, I, SL, rfl, h.giveUp0 hj (h5 hj), kC.rf⟩
theorem m_stop (hX : Fx n S R) (h : RM σ I SL) (h5 : σ.job = false → σ.FS 5 = []) (hnf : (σ.FS 5).length ≤ σ.nf) : wp 1 22 0 0 MX7_stop 0 [(0, .ref 39)] [] (n, S, R, I) (mP I n S R σ.stop) := by
  first | refine wp_aload_n (pc := 0) dX7_stop_0 rfl ?_ | refine wp_aload_nN (pc := 0) dX7_stop_0 rfl ?_
  refine wp_iconst (pc := 1) (v := 0) dX7_stop_1 (by decide) ?_
  refine wp_putI (pc := 2) dX7_stop_2 fl_LevelStoreModel_89 (by first | assumption | exact Fx.ok (by assumption) (by decide)) rfl rfl (Or.inl rfl) ?_
  have h1 := h.z
  have hk := kC.z (I := I)
  generalize ab_u2 I 39 0 0 = J at h1 hk ⊢
  first | refine wp_aload_n (pc := 5) dX7_stop_5 rfl ?_ | refine wp_aload_nN (pc := 5) dX7_stop_5 rfl ?_
  refine wp_getI (pc := 6) dX7_stop_6 fl_LevelStoreModel_143 (by first | assumption | exact Fx.ok (by assumption) (by decide)) rfl ?_
  refine wp_if_eq (pc := 9) (tgt := 19) dX7_stop_9 (by decide) (fun hc => ?_) (fun hc => ?_)
  · have hj := jb_f h1.jb.1 hc
    have hw : σ.stop = (cSTATE, σ) := by unfold St.stop; rw [if_neg (by rw [hj]; decide)]
    refine wp_ldc (pc := 19) (v := -1000003) dX7_stop_19 cn_LevelStoreModel_136 ?_
    refine wp_ret (pc := 21) dX7_stop_21 rfl (by first | trivial | exact Or.inl rfl | exact Or.inr rfl | assumption) ?_
    first | exact mP.id h1 hw hk | (rw [hw]; exact ⟨rfl, I', SL', rfl, hr, hk.tr hk'⟩)
  · have hj := jb_t h1.jb.1 hc
    have hw : σ.stop = (nI (σ.FS 5).length, σ.giveUp) := by unfold St.stop; rw [if_pos hj]
    first | refine wp_aload_n (pc := 12) dX7_stop_12 rfl ?_ | refine wp_aload_nN (pc := 12) dX7_stop_12 rfl ?_
    refine cv_LevelStoreModel_120 (pc := 13) (m_giveUp hX h1 h5 hnf) rfl dX7_stop_13 (by first | assumption | exact Fx.ok (by assumption) (by decide)) ⟨by decide, by decide, Nat.zero_le _, Nat.zero_le _⟩ (Nat.le_of_ble_eq_true rfl) (fun v h hp => ?_)
    obtain ⟨I', SL', rfl, rfl, hr, hk'⟩ := hp.out
    refine wp_goto (pc := 16) (tgt := 21) dX7_stop_16 (by decide) ?_
    refine wp_ret (pc := 21) dX7_stop_21 rfl (by first | trivial | exact Or.inl rfl | exact Or.inr rfl | assumption) ?_
    first | exact mP.id h1 hw hk | (rw [hw]; exact ⟨rfl, I', SL', rfl, hr, hk.tr hk'⟩)
/-! count -/
theorem m_count_end (hX : Fx n S R) (h : RM σ I SL) {I0 : ab_II} (hk : kC I0 I) (w : Int32) (hjd : σ.job = true → σ.don ≤ σ.src.length ∧ σ.src.length ≤ 512) (L : List (Nat × Value)) (hL : ab_sub L [(0, .ref 39), (1, .int w), (2, .int (nI (slT I pF 330).length)), (3, .int ((slT I pF 330).foldl (fun m f => m + I 47 f) 0)), (4, .int ((slT I pF 330).foldl (fun m f => m + I 48 f) 0))]) : wp 1 25 0 0 MX7_count 72 L [] (n, S, R, I) (mP I0 n S R (σ.count w)) := by
  refine wp_loc hL ?_
  rw [h.sl.sumB, h.sl.sumE, h.sl.num]
  have fin : ∀ x : Int32, (σ.count w).1 = x → mP I0 n S R (σ.count w) (some (.int x)) (n, S, R, I) := fun x e => ⟨by rw [e], I, SL, rfl, h, hk⟩
  refine wp_iload_n (pc := 72) dX7_count_72 rfl ?_
  refine wp_tableAt (pc := 73) (0) (off := 51) (tgt := 124) dX7_count_73 (by decide) (by decide) rfl (by decide) (fun hc => ?_) (fun hc => ?_)
  · skip
    first | refine wp_aload_n (pc := 124) dX7_count_124 rfl ?_ | refine wp_aload_nN (pc := 124) dX7_count_124 rfl ?_
    refine wp_getI (pc := 125) dX7_count_125 fl_LevelStoreModel_93 (by first | assumption | exact Fx.ok (by assumption) (by decide)) rfl ?_
    refine wp_ret (pc := 128) dX7_count_128 rfl (by first | trivial | exact Or.inl rfl | exact Or.inr rfl | assumption) ?_
    rw [h.lg.1]; exact fin _ (by unfold St.count; rw [if_pos (by omega)])
  refine wp_tableAt (pc := 73) (1) (off := 56) (tgt := 129) dX7_count_73 (by decide) (by decide) rfl (by decide) (fun hc => ?_) (fun hc => ?_)
  · skip
    first | refine wp_aload_n (pc := 129) dX7_count_129 rfl ?_ | refine wp_aload_nN (pc := 129) dX7_count_129 rfl ?_
    refine wp_getI (pc := 130) dX7_count_130 fl_LevelStoreModel_117 (by first | assumption | exact Fx.ok (by assumption) (by decide)) rfl ?_
    refine wp_ret (pc := 133) dX7_count_133 rfl (by first | trivial | exact Or.inl rfl | exact Or.inr rfl | assumption) ?_
    rw [h.dt.1]; exact fin _ (by unfold St.count; rw [if_neg (by omega), if_pos (by omega)])
  refine wp_tableAt (pc := 73) (2) (off := 61) (tgt := 134) dX7_count_73 (by decide) (by decide) rfl (by decide) (fun hc => ?_) (fun hc => ?_)
  · skip
    first | refine wp_aload_n (pc := 134) dX7_count_134 rfl ?_ | refine wp_aload_nN (pc := 134) dX7_count_134 rfl ?_
    refine wp_getI (pc := 135) dX7_count_135 fl_LevelStoreModel_96 (by first | assumption | exact Fx.ok (by assumption) (by decide)) rfl ?_
    refine wp_ret (pc := 138) dX7_count_138 rfl (by first | trivial | exact Or.inl rfl | exact Or.inr rfl | assumption) ?_
    rw [h.dt.2.1]; exact fin _ (by unfold St.count; rw [if_neg (by omega), if_neg (by omega), if_pos (by omega)])
  refine wp_tableAt (pc := 73) (3) (off := 66) (tgt := 139) dX7_count_73 (by decide) (by decide) rfl (by decide) (fun hc => ?_) (fun hc => ?_)
  · skip
    refine wp_iload_n (pc := 139) dX7_count_139 rfl ?_
    refine wp_ret (pc := 140) dX7_count_140 rfl (by first | trivial | exact Or.inl rfl | exact Or.inr rfl | assumption) ?_
    exact fin _ (by unfold St.count; rw [if_neg (by omega), if_neg (by omega), if_neg (by omega), if_pos (by omega)])
  refine wp_tableAt (pc := 73) (4) (off := 68) (tgt := 141) dX7_count_73 (by decide) (by decide) rfl (by decide) (fun hc => ?_) (fun hc => ?_)
  · skip
    refine wp_iload_n (pc := 141) dX7_count_141 rfl ?_
    refine wp_ret (pc := 142) dX7_count_142 rfl (by first | trivial | exact Or.inl rfl | exact Or.inr rfl | assumption) ?_
    exact fin _ (by unfold St.count; rw [if_neg (by omega), if_neg (by omega), if_neg (by omega), if_neg (by omega), if_pos (by omega)])
  refine wp_tableAt (pc := 73) (5) (off := 70) (tgt := 143) dX7_count_73 (by decide) (by decide) rfl (by decide) (fun hc => ?_) (fun hc => ?_)
  · skip
    first | refine wp_aload_n (pc := 143) dX7_count_143 rfl ?_ | refine wp_aload_nN (pc := 143) dX7_count_143 rfl ?_
    refine wp_getI (pc := 144) dX7_count_144 fl_LevelStoreModel_143 (by first | assumption | exact Fx.ok (by assumption) (by decide)) rfl ?_
    refine wp_if_eq (pc := 147) (tgt := 162) dX7_count_147 (by decide) (fun hc => ?_) (fun hc => ?_)
    · have hw5 : w.toInt = 5 := by assumption
      have hj := jb_f h.jb.1 hc
      have e5 : (σ.count w).1 = cNONE := by unfold St.count; rw [if_neg (by omega), if_neg (by omega), if_neg (by omega), if_neg (by omega), if_neg (by omega), if_pos (by omega), if_neg (by rw [hj]; decide)]
      refine wp_ldc (pc := 162) (v := -1000009) dX7_count_162 cn_LevelStoreModel_116 ?_
      refine wp_ret (pc := 164) dX7_count_164 rfl (by first | trivial | exact Or.inl rfl | exact Or.inr rfl | assumption) ?_
      exact fin _ e5
    · have hw5 : w.toInt = 5 := by assumption
      have hj := jb_t h.jb.1 hc
      have e5 : (σ.count w).1 = nI (σ.src.length - σ.don) := by unfold St.count; rw [if_neg (by omega), if_neg (by omega), if_neg (by omega), if_neg (by omega), if_neg (by omega), if_pos (by omega), if_pos hj]
      first | refine wp_aload_n (pc := 150) dX7_count_150 rfl ?_ | refine wp_aload_nN (pc := 150) dX7_count_150 rfl ?_
      refine wp_getI (pc := 151) dX7_count_151 fl_LevelStoreModel_140 (by first | assumption | exact Fx.ok (by assumption) (by decide)) rfl ?_
      first | refine wp_aload_n (pc := 154) dX7_count_154 rfl ?_ | refine wp_aload_nN (pc := 154) dX7_count_154 rfl ?_
      refine wp_getI (pc := 155) dX7_count_155 fl_LevelStoreModel_153 (by first | assumption | exact Fx.ok (by assumption) (by decide)) rfl ?_
      refine wp_isub (pc := 158) dX7_count_158 ?_
      rw [(h.jb.2.2 hj).2.1, (h.2 hj).1, pk_sub (hjd hj).1]
      refine wp_goto (pc := 159) (tgt := 164) dX7_count_159 (by decide) ?_
      refine wp_ret (pc := 164) dX7_count_164 rfl (by first | trivial | exact Or.inl rfl | exact Or.inr rfl | assumption) ?_
      exact fin _ e5
  refine wp_tableAt (pc := 73) (6) (off := 92) (tgt := 165) dX7_count_73 (by decide) (by decide) rfl (by decide) (fun hc => ?_) (fun hc => ?_)
  · skip
    first | refine wp_aload_n (pc := 165) dX7_count_165 rfl ?_ | refine wp_aload_nN (pc := 165) dX7_count_165 rfl ?_
    refine wp_getI (pc := 166) dX7_count_166 fl_LevelStoreModel_156 (by first | assumption | exact Fx.ok (by assumption) (by decide)) rfl ?_
    refine wp_ret (pc := 169) dX7_count_169 rfl (by first | trivial | exact Or.inl rfl | exact Or.inr rfl | assumption) ?_
    rw [h.jb.2.1]; exact fin _ (by unfold St.count; rw [if_neg (by omega), if_neg (by omega), if_neg (by omega), if_neg (by omega), if_neg (by omega), if_neg (by omega), if_pos (by omega)])
  refine wp_tableAt (pc := 73) (7) (off := 97) (tgt := 170) dX7_count_73 (by decide) (by decide) rfl (by decide) (fun hc => ?_) (fun hc => ?_)
  · skip
    first | refine wp_aload_n (pc := 170) dX7_count_170 rfl ?_ | refine wp_aload_nN (pc := 170) dX7_count_170 rfl ?_
    refine wp_getI (pc := 171) dX7_count_171 fl_LevelStoreModel_201 (by first | assumption | exact Fx.ok (by assumption) (by decide)) rfl ?_
    refine wp_ret (pc := 174) dX7_count_174 rfl (by first | trivial | exact Or.inl rfl | exact Or.inr rfl | assumption) ?_
    rw [h.fd.1]; exact fin _ (by unfold St.count; rw [if_neg (by omega), if_neg (by omega), if_neg (by omega), if_neg (by omega), if_neg (by omega), if_neg (by omega), if_neg (by omega), if_pos (by omega)])
  refine wp_tableAt (pc := 73) (8) (off := 102) (tgt := 175) dX7_count_73 (by decide) (by decide) rfl (by decide) (fun hc => ?_) (fun hc => ?_)
  · skip
    refine wp_iload (pc := 175) dX7_count_175 rfl ?_
    refine wp_ret (pc := 177) dX7_count_177 rfl (by first | trivial | exact Or.inl rfl | exact Or.inr rfl | assumption) ?_
    exact fin _ (by unfold St.count; rw [if_neg (by omega), if_neg (by omega), if_neg (by omega), if_neg (by omega), if_neg (by omega), if_neg (by omega), if_neg (by omega), if_neg (by omega), if_pos (by omega)])
  refine wp_tableOut (pc := 73) (tgt := 178) dX7_count_73 (by omega) (by decide) ?_
  refine wp_ldc (pc := 178) (v := -1000002) dX7_count_178 cn_LevelStoreModel_111 ?_
  refine wp_ret (pc := 180) dX7_count_180 rfl (by first | trivial | exact Or.inl rfl | exact Or.inr rfl | assumption) ?_
  exact fin _ (by unfold St.count; rw [if_neg (by omega), if_neg (by omega), if_neg (by omega), if_neg (by omega), if_neg (by omega), if_neg (by omega), if_neg (by omega), if_neg (by omega), if_neg (by omega)])
theorem m_count_loop (hX : Fx n S R) (w : Int32) (post : ab_Po) (hpost : ∀ L, ab_sub L [(0, .ref 39), (1, .int w), (2, .int (nI (slT I pF 330).length)), (3, .int ((slT I pF 330).foldl (fun m f => m + I 47 f) 0)), (4, .int ((slT I pF 330).foldl (fun m f => m + I 48 f) 0))] → wp 1 25 0 0 MX7_count 72 L [] (n, S, R, I) post) :
    ∀ (d t : Nat) (y : Int32) (L : List (Nat × Value)), 330 = t + d → y = nI t → ab_sub L [(0, .ref 39), (1, .int w), (2, .int (nI (slT I pF t).length)), (3, .int ((slT I pF t).foldl (fun m f => m + I 47 f) 0)), (4, .int ((slT I pF t).foldl (fun m f => m + I 48 f) 0)), (5, .int y)] → wp 1 25 0 0 MX7_count 15 L [] (n, S, R, I) post := by
  have z44 : (S 44).2 = 330 := hX.len (by decide)
  have z47 : (S 47).2 = 330 := hX.len (by decide)
  have z48 : (S 48).2 = 330 := hX.len (by decide)
  have t330 : (330 : Int32).toInt = 330 := by decide +kernel
  intro d
  induction d with
  | zero =>
    intro t y L ht hy hL0
    refine wp_loc hL0 ?_
    have ey : y.toInt = t := by rw [hy, tI_n (by omega)]
    refine wp_iload (pc := 15) dX7_count_15 rfl ?_
    refine wp_sipush (pc := 17) (v := 330) dX7_count_17 (by decide) ?_
    refine wp_icmp_ge (pc := 20) (tgt := 72) dX7_count_20 (by decide) (fun hc => ?_) (fun hc => ?_)
    · skip
      rw [show t = 330 by omega]; exact hpost _ ⟨rfl, rfl, rfl, rfl, rfl, trivial⟩
    · rw [t330] at hc; omega
  | succ d ih =>
    intro t y L ht hy hL0
    refine wp_loc hL0 ?_
    have ey : y.toInt = t := by rw [hy, tI_n (by omega)]
    have cy : y.toNatClampNeg = t := by rw [tI_c]; omega
    refine wp_iload (pc := 15) dX7_count_15 rfl ?_
    refine wp_sipush (pc := 17) (v := 330) dX7_count_17 (by decide) ?_
    refine wp_icmp_ge (pc := 20) (tgt := 72) dX7_count_20 (by decide) (fun hc => ?_) (fun hc => ?_)
    · rw [t330] at hc; omega
    · skip
      first | refine wp_aload_n (pc := 23) dX7_count_23 rfl ?_ | refine wp_aload_nN (pc := 23) dX7_count_23 rfl ?_
      refine wp_getR (pc := 24) dX7_count_24 fl_LevelStoreModel_22 (by first | assumption | exact Fx.ok (by assumption) (by decide)) rfl (by first | assumption | exact Fx.ref (by assumption) rfl) ?_
      refine wp_iload (pc := 27) dX7_count_27 rfl ?_
      refine wp_iaload (pc := 29) dX7_count_29 (by first | assumption | exact Fx.ok (by assumption) (by decide)) (in_I (by omega) (by rw [z44]; omega)) ?_
      rw [cy]
      refine wp_i2l (pc := 30) dX7_count_30 ?_
      refine wp_lconst (pc := 31) (v := 0) dX7_count_31 (by decide) ?_
      refine wp_ldc2 (pc := 32) (v := 3) dX7_count_32 cl2_LevelStoreModel_124 ?_
      refine cv_LevelStoreModel_103 (pc := 35) (s_inI (I 44 t) l64_0 l64_3) rfl dX7_count_35 ⟨by decide, by decide, Nat.zero_le _, Nat.zero_le _⟩ (Nat.le_of_ble_eq_true rfl) (fun v h hp => ?_)
      obtain ⟨rfl, rfl⟩ := hp
      refine wp_if_eq (pc := 38) (tgt := 66) dX7_count_38 (by decide) (fun hc => ?_) (fun hc => ?_)
      · have hb := ite01 hc
        have hp0 : pF (I 44 t) = false := decide_eq_false hb
        rw [show slT I pF t = slT I pF (t + 1) from (slT_n hp0).symm]
        refine wp_iinc (pc := 66) dX7_count_66 rfl (by decide) rfl ?_
        refine wp_goto (pc := 69) (tgt := 15) dX7_count_69 (by decide) ?_
        first
        | exact ih (t + 1) _ _ (by omega) (by rw [hy]; exact nI_i1 t) ⟨rfl, rfl, rfl, rfl, rfl, rfl, trivial⟩
        | refine ih (t + 1) (y + Int32.ofInt 1) _ (by omega) (by rw [hy]; exact nI_i1 t) ?_
          rw [slT_y hp1, List.length_append, List.foldl_append, List.foldl_append, ← cy]
          exact ⟨rfl, rfl, by show some (Value.int (nI _ + Int32.ofInt 1)) = _; rw [nI_i1]; rfl, rfl, rfl, rfl, trivial⟩
      · have hb := ite01n hc
        have hp1 : pF (I 44 t) = true := decide_eq_true hb
        refine wp_iinc (pc := 41) dX7_count_41 rfl (by decide) rfl ?_
        refine wp_iload_n (pc := 44) dX7_count_44 rfl ?_
        first | refine wp_aload_n (pc := 45) dX7_count_45 rfl ?_ | refine wp_aload_nN (pc := 45) dX7_count_45 rfl ?_
        refine wp_getR (pc := 46) dX7_count_46 fl_LevelStoreModel_31 (by first | assumption | exact Fx.ok (by assumption) (by decide)) rfl (by first | assumption | exact Fx.ref (by assumption) rfl) ?_
        refine wp_iload (pc := 49) dX7_count_49 rfl ?_
        refine wp_iaload (pc := 51) dX7_count_51 (by first | assumption | exact Fx.ok (by assumption) (by decide)) (in_I (by omega) (by rw [z47]; omega)) ?_
        refine wp_iadd (pc := 52) dX7_count_52 ?_
        refine wp_istore_n (pc := 53) dX7_count_53 (by decide) rfl ?_
        refine wp_iload (pc := 54) dX7_count_54 rfl ?_
        first | refine wp_aload_n (pc := 56) dX7_count_56 rfl ?_ | refine wp_aload_nN (pc := 56) dX7_count_56 rfl ?_
        refine wp_getR (pc := 57) dX7_count_57 fl_LevelStoreModel_34 (by first | assumption | exact Fx.ok (by assumption) (by decide)) rfl (by first | assumption | exact Fx.ref (by assumption) rfl) ?_
        refine wp_iload (pc := 60) dX7_count_60 rfl ?_
        refine wp_iaload (pc := 62) dX7_count_62 (by first | assumption | exact Fx.ok (by assumption) (by decide)) (in_I (by omega) (by rw [z48]; omega)) ?_
        refine wp_iadd (pc := 63) dX7_count_63 ?_
        refine wp_istore (pc := 64) dX7_count_64 (by decide) rfl ?_
        refine wp_iinc (pc := 66) dX7_count_66 rfl (by decide) rfl ?_
        refine wp_goto (pc := 69) (tgt := 15) dX7_count_69 (by decide) ?_
        first
        | exact ih (t + 1) _ _ (by omega) (by rw [hy]; exact nI_i1 t) ⟨rfl, rfl, rfl, rfl, rfl, rfl, trivial⟩
        | refine ih (t + 1) (y + Int32.ofInt 1) _ (by omega) (by rw [hy]; exact nI_i1 t) ?_
          rw [slT_y hp1, List.length_append, List.foldl_append, List.foldl_append, ← cy]
          exact ⟨rfl, rfl, by show some (Value.int (nI _ + Int32.ofInt 1)) = _; rw [nI_i1]; rfl, rfl, rfl, rfl, trivial⟩
theorem m_count (hX : Fx n S R) (h : RM σ I SL) (hjd : σ.job = true → σ.don ≤ σ.src.length ∧ σ.src.length ≤ 512) (w : Int32) : wp 1 25 0 0 MX7_count 0 [(0, .ref 39), (1, .int w)] [] (n, S, R, I) (mP I n S R (σ.count w)) := by
  first | refine wp_aload_n (pc := 0) dX7_count_0 rfl ?_ | refine wp_aload_nN (pc := 0) dX7_count_0 rfl ?_
  refine wp_iconst (pc := 1) (v := 0) dX7_count_1 (by decide) ?_
  refine wp_putI (pc := 2) dX7_count_2 fl_LevelStoreModel_89 (by first | assumption | exact Fx.ok (by assumption) (by decide)) rfl rfl (Or.inl rfl) ?_
  have h1 := h.z
  have hk := kC.z (I := I)
  generalize ab_u2 I 39 0 0 = J at h1 hk ⊢
  refine wp_iconst (pc := 5) (v := 0) dX7_count_5 (by decide) ?_
  refine wp_istore_n (pc := 6) dX7_count_6 (by decide) rfl ?_
  refine wp_iconst (pc := 7) (v := 0) dX7_count_7 (by decide) ?_
  refine wp_istore_n (pc := 8) dX7_count_8 (by decide) rfl ?_
  refine wp_iconst (pc := 9) (v := 0) dX7_count_9 (by decide) ?_
  refine wp_istore (pc := 10) dX7_count_10 (by decide) rfl ?_
  refine wp_iconst (pc := 12) (v := 0) dX7_count_12 (by decide) ?_
  refine wp_istore (pc := 13) dX7_count_13 (by decide) rfl ?_
  exact m_count_loop hX w _ (fun L hL => m_count_end hX h1 hk w hjd L hL) 330 0 _ _ rfl rfl ⟨rfl, rfl, rfl, rfl, rfl, rfl, trivial⟩
end M2
