/-! THE REFERENCE: install -/
def cutL (l : List Nat) (a b : Nat) (m : List Nat) : List Nat := l.take a ++ m ++ l.drop b
def insS (σ : St) (SL : Nat → List Nat) : Nat → List Nat := va_up (va_up (if σ.tgt = 0 then SL else va_up SL (σ.tgt - 1) (cutL (SL (σ.tgt - 1)) σ.lf σ.lt [])) σ.tgt (cutL (SL σ.tgt) σ.tf σ.tt (SL 5))) 5 []
/-- two rows of one length, place by place -/
def zipP (P : Nat → FA → Prop) (l : List Nat) (fs : List FA) : Prop := l.length = fs.length ∧ ∀ (a f : Nat) (F : FA), l[a]? = some f → fs[a]? = some F → P f F
theorem zipP.take {P : Nat → FA → Prop} {l : List Nat} {fs : List FA} (h : zipP P l fs) (n : Nat) : zipP P (l.take n) (fs.take n) := by
  refine ⟨by rw [List.length_take, List.length_take, h.1], fun a f F h1 h2 => ?_⟩
  rw [List.getElem?_take] at h1 h2
  split at h1
  · rw [if_pos ‹_›] at h2; exact h.2 a f F h1 h2
  · cases h1
theorem zipP.drop {P : Nat → FA → Prop} {l : List Nat} {fs : List FA} (h : zipP P l fs) (n : Nat) : zipP P (l.drop n) (fs.drop n) := by
  refine ⟨by rw [List.length_drop, List.length_drop, h.1], fun a f F h1 h2 => ?_⟩
  rw [List.getElem?_drop] at h1 h2
  exact h.2 _ f F h1 h2
theorem zipP.app {P : Nat → FA → Prop} {l l' : List Nat} {fs fs' : List FA} (h : zipP P l fs) (h' : zipP P l' fs') : zipP P (l ++ l') (fs ++ fs') := by
  refine ⟨by rw [List.length_append, List.length_append, h.1, h'.1], fun a f F h1 h2 => ?_⟩
  by_cases q : a < l.length
  · rw [List.getElem?_append_left q] at h1
    rw [List.getElem?_append_left (by rw [← h.1]; exact q)] at h2
    exact h.2 a f F h1 h2
  · rw [List.getElem?_append_right (by omega)] at h1
    rw [List.getElem?_append_right (by rw [← h.1]; omega), ← h.1] at h2
    exact h'.2 _ f F h1 h2
theorem zipP.nil {P : Nat → FA → Prop} : zipP P [] [] := ⟨rfl, fun a f F h => by simp at h⟩
theorem zipP.cut {P : Nat → FA → Prop} {l m : List Nat} {fs gs : List FA} (h : zipP P l fs) (h' : zipP P m gs) (a b : Nat) : zipP P (cutL l a b m) (cutF fs a b gs) := ((h.take a).app h').app (h.drop b)
theorem cut_mem {l m : List Nat} (hn : l.Nodup) {a b f : Nat} (hab : a ≤ b) : f ∈ cutL l a b m ↔ f ∈ m ∨ (f ∈ l ∧ f ∉ (l.take b).drop a) := by
  unfold cutL
  rw [List.mem_append, List.mem_append]
  have key : ∀ (i : Nat), l[i]? = some f → (f ∈ (l.take b).drop a ↔ a ≤ i ∧ i < b) := fun i hi => mem_sl hn hi
  constructor
  · rintro ((q | q) | q)
    · obtain ⟨i, hi⟩ := List.getElem?_of_mem q
      rw [List.getElem?_take] at hi
      split at hi
      · exact Or.inr ⟨List.mem_of_getElem? hi, fun z => by have := (key i hi).mp z; omega⟩
      · cases hi
    · exact Or.inl q
    · obtain ⟨i, hi⟩ := List.getElem?_of_mem q
      rw [List.getElem?_drop] at hi
      exact Or.inr ⟨List.mem_of_getElem? hi, fun z => by have := (key _ hi).mp z; omega⟩
  · rintro (q | ⟨q1, q2⟩)
    · exact Or.inl (Or.inr q)
    · obtain ⟨i, hi⟩ := List.getElem?_of_mem q1
      have hz : ¬ (a ≤ i ∧ i < b) := fun z => q2 ((key i hi).mpr z)
      by_cases q : i < a
      · exact Or.inl (Or.inl (List.mem_of_getElem? (i := i) (by rw [List.getElem?_take, if_pos q]; exact hi)))
      · exact Or.inr (List.mem_of_getElem? (i := i - b) (by rw [List.getElem?_drop, show b + (i - b) = i by omega]; exact hi))
theorem cut_nd {l m : List Nat} (hn : l.Nodup) (hm : m.Nodup) (hd : ∀ f ∈ m, f ∉ l) {a b : Nat} (hab : a ≤ b) : (cutL l a b m).Nodup := by
  unfold cutL List.Nodup
  have h1 : (l.take a).Nodup := (List.take_sublist _ _).nodup hn
  have h2 : (l.drop b).Nodup := (List.drop_sublist _ _).nodup hn
  rw [List.pairwise_append, List.pairwise_append]
  refine ⟨⟨h1, hm, fun x hx y hy e => hd y hy (e ▸ List.mem_of_mem_take hx)⟩, h2, fun x hx y hy e => ?_⟩
  subst e
  rcases List.mem_append.mp hx with q | q
  · obtain ⟨i, hi⟩ := List.getElem?_of_mem q
    obtain ⟨j, hj⟩ := List.getElem?_of_mem hy
    rw [List.getElem?_take] at hi
    rw [List.getElem?_drop] at hj
    split at hi
    · have := (List.getElem?_inj (by exact (List.getElem?_eq_some_iff.mp hi).1) hn).mp (hi.trans hj.symm)
      omega
    · cases hi
  · exact hd x q (List.mem_of_mem_drop hy)
section M18
variable {σ : St} {n : Nat} {S : ab_SH} {R : ab_RR} {I : ab_II} {SL : Nat → List Nat}
theorem insS_5 : insS σ SL 5 = [] := up_at ..
theorem insS_t (ht : σ.tgt ≤ 3) : insS σ SL σ.tgt = cutL (SL σ.tgt) σ.tf σ.tt (SL 5) := by unfold insS; rw [up_ne (by omega), up_at]
theorem insS_s (ht : σ.tgt ≤ 3) (h0 : σ.tgt ≠ 0) : insS σ SL (σ.tgt - 1) = cutL (SL (σ.tgt - 1)) σ.lf σ.lt [] := by unfold insS; rw [up_ne (by omega), up_ne (by omega), if_neg h0, up_at]
theorem insS_o {k : Nat} (h5 : k ≠ 5) (h1 : k ≠ σ.tgt) (h2 : σ.tgt = 0 ∨ k ≠ σ.tgt - 1) : insS σ SL k = SL k := by
  unfold insS
  rw [up_ne h5, up_ne h1]
  by_cases h0 : σ.tgt = 0
  · rw [if_pos h0]
  · rw [if_neg h0, up_ne (h2.resolve_left h0)]
theorem insF_5 : σ.insF 5 = [] := up_at ..
theorem insF_t (ht : σ.tgt ≤ 3) : σ.insF σ.tgt = cutF (σ.FS σ.tgt) σ.tf σ.tt (σ.FS 5) := by unfold St.insF; rw [up_ne (by omega), up_at]
theorem insF_s (ht : σ.tgt ≤ 3) (h0 : σ.tgt ≠ 0) : σ.insF (σ.tgt - 1) = cutF (σ.FS (σ.tgt - 1)) σ.lf σ.lt [] := by unfold St.insF; rw [up_ne (by omega), up_ne (by omega), if_neg h0, up_at]
theorem insF_o {k : Nat} (h5 : k ≠ 5) (h1 : k ≠ σ.tgt) (h2 : σ.tgt = 0 ∨ k ≠ σ.tgt - 1) : σ.insF k = σ.FS k := by
  unfold St.insF
  rw [up_ne h5, up_ne h1]
  by_cases h0 : σ.tgt = 0
  · rw [if_pos h0]
  · rw [if_neg h0, up_ne (h2.resolve_left h0)]
theorem RM.inst (h : RMc σ I SL) (hj : σ.job = true) (hp : posOK σ) {J : ab_II} (h44 : ∀ f, f < 330 → J 44 f = if I 44 f = 9 then nI σ.tgt else if I 57 f ≠ 0 then -1 else I 44 f) (hk : ∀ j, 45 ≤ j → j ≤ 52 → J j = I j) (hl : mLog σ.insD.fin J) (hd : mDat σ.insD.fin J) (h16 : J 39 16 = I 39 16) (h20 : J 39 20 = 0) (h30 : J 39 30 = 0) : RM σ.insD.fin J (insS σ SL) := by
  obtain ⟨c1, c2, c3, c4, c5⟩ := h
  obtain ⟨p1, p2, p3, p4, p5⟩ := hp
  obtain ⟨-, -, -, -, -, -, -, d8⟩ := c5.2.2 hj
  have hlt : lvk σ.tgt := Or.inl (by omega)
  have hls : lvk (σ.tgt - 1) := Or.inl (by omega)
  have elt : lvc σ.tgt = nI σ.tgt := by unfold lvc; rw [if_neg (by omega)]
  have e9 : lvc 5 = 9 := rfl
  have bits : ∀ f, f < 330 → (I 57 f ≠ 0 ↔ isSrc σ SL f) := fun f hf => by
    rcases d8 f hf with ⟨q1, q2⟩ | ⟨q1, q2⟩
    · rw [q1]; exact ⟨fun _ => q2, fun _ => by decide⟩
    · rw [q1]; exact ⟨fun z => absurd rfl z, fun z => absurd z q2⟩
  have uniq : ∀ {i j f : Nat}, lvk i → lvk j → f ∈ SL i → f ∈ SL j → i = j := fun hi hj h1 h2 => lvc_inj hi hj ((c3.mem hi h1).2.1.symm.trans (c3.mem hj h2).2.1)
  -- the level of what is in a row of the old state, and is no source
  have keep : ∀ (k f : Nat), lvk k → k ≠ 5 → f ∈ SL k → ¬ isSrc σ SL f → J 44 f = lvc k := fun k f hkk h5 hm hn => by
    obtain ⟨g1, g2, -⟩ := c3.mem hkk hm
    rw [h44 f g1, g2, if_neg (fun q => h5 (lvc_inj hkk (Or.inr rfl) (q.trans e9.symm))), if_neg (fun q => hn ((bits f g1).mp q))]
  have srcT : ∀ f, f ∈ SL σ.tgt → (isSrc σ SL f ↔ f ∈ ((SL σ.tgt).take σ.tt).drop σ.tf) := fun f hm => by
    unfold isSrc
    constructor
    · rintro (⟨q0, q⟩ | q)
      · have := uniq hls hlt (sl_sub f q) hm; omega
      · exact q
    · exact Or.inr
  have srcS : σ.tgt ≠ 0 → ∀ f, f ∈ SL (σ.tgt - 1) → (isSrc σ SL f ↔ f ∈ ((SL (σ.tgt - 1)).take σ.lt).drop σ.lf) := fun h0 f hm => by
    unfold isSrc
    constructor
    · rintro (⟨q0, q⟩ | q)
      · exact q
      · have := uniq hls hlt hm (sl_sub f q); omega
    · exact fun q => Or.inl ⟨h0, q⟩
  have srcO : ∀ k f, lvk k → k ≠ σ.tgt → (σ.tgt = 0 ∨ k ≠ σ.tgt - 1) → f ∈ SL k → ¬ isSrc σ SL f := fun k f hkk h1 h2 hm q => by
    rcases q with ⟨q0, q⟩ | q
    · have := uniq hls hkk (sl_sub f q) hm; omega
    · exact h1 (uniq hkk hlt hm (sl_sub f q))
  have lev9 : ∀ f, f ∈ SL 5 → J 44 f = nI σ.tgt := fun f hm => by
    obtain ⟨g1, g2, -⟩ := c3.mem (Or.inr rfl) hm
    rw [h44 f g1, g2, if_pos e9]
  have zip0 : ∀ k, lvk k → zipP (fun f F => f < 330 ∧ slOK J f F) (SL k) (σ.FS k) := fun k hkk => ⟨(c3.1 k hkk).1, fun a f F q1 q2 => by
    obtain ⟨g1, -, g3⟩ := (c3.1 k hkk).2.2 a f F q1 q2
    exact ⟨g1, g3.keep (fun j r1 r2 => hk j r1 (by omega))⟩⟩
  have nd : ∀ k, lvk k → (SL k).Nodup := fun k hkk => (c3.1 k hkk).2.1
  have fin : ∀ k, lvk k → zipP (fun f F => f < 330 ∧ slOK J f F) (insS σ SL k) (σ.insF k) ∧ (insS σ SL k).Nodup ∧ ∀ f ∈ insS σ SL k, J 44 f = lvc k := by
    intro k hkk
    by_cases h5 : k = 5
    · subst h5
      rw [insS_5, insF_5]
      exact ⟨zipP.nil, List.nodup_nil, fun f q => absurd q List.not_mem_nil⟩
    · by_cases h1 : k = σ.tgt
      · subst h1
        rw [insS_t p1, insF_t p1]
        refine ⟨(zip0 _ hkk).cut (zip0 5 (Or.inr rfl)) _ _, cut_nd (nd _ hkk) (nd 5 (Or.inr rfl)) (fun f q1 q2 => h5 (uniq hkk (Or.inr rfl) q2 q1)) p3, fun f q => ?_⟩
        rcases (cut_mem (nd _ hkk) p3).mp q with q | ⟨q, q2⟩
        · rw [lev9 f q, elt]
        · exact keep _ f hkk h5 q (fun z => q2 ((srcT f q).mp z))
      · by_cases h2 : σ.tgt = 0 ∨ k ≠ σ.tgt - 1
        · rw [insS_o h5 h1 h2, insF_o h5 h1 h2]
          exact ⟨zip0 k hkk, nd k hkk, fun f q => keep k f hkk h5 q (srcO k f hkk h1 h2 q)⟩
        · have h0 : σ.tgt ≠ 0 := fun q => h2 (Or.inl q)
          have hk1 : k = σ.tgt - 1 := Decidable.byContradiction fun q => h2 (Or.inr q)
          subst hk1
          rw [insS_s p1 h0, insF_s p1 h0]
          have hlf := (p2 h0).1
          refine ⟨(zip0 _ hkk).cut zipP.nil _ _, cut_nd (nd _ hkk) List.nodup_nil (fun f q => absurd q List.not_mem_nil) hlf, fun f q => ?_⟩
          rcases (cut_mem (nd _ hkk) hlf).mp q with q | ⟨q, q2⟩
          · exact absurd q List.not_mem_nil
          · exact keep _ f hkk h5 q (fun z => q2 ((srcS h0 f q).mp z))
  refine ⟨⟨hl, hd, ⟨fun k hkk => ⟨(fin k hkk).1.1, (fin k hkk).2.1, fun a f F q1 q2 => ?_⟩, fun f hf => ?_⟩, ⟨by rw [h16]; exact c4.1, fun j q => by rw [hk 52 (by decide) (by decide)]; exact c4.2 j q⟩, ⟨h20, by rw [h30]; show (0 : Int32) = nI (σ.insF 5).length; rw [insF_5]; rfl, fun q => by cases q⟩⟩, fun q => by cases q⟩
  · obtain ⟨g1, g2⟩ := (fin k hkk).1.2 a f F q1 q2
    exact ⟨g1, (fin k hkk).2.2 f (List.mem_of_getElem? q1), g2⟩
  · rcases c3.2 f hf with e | ⟨k, hkk, hm⟩
    · left
      rw [h44 f hf, e, if_neg (by decide)]
      split <;> rfl
    · by_cases h5 : k = 5
      · subst h5
        exact Or.inr ⟨σ.tgt, hlt, by rw [insS_t p1]; exact (cut_mem (nd _ hlt) p3).mpr (Or.inl hm)⟩
      · by_cases hs : isSrc σ SL f
        · left
          rw [h44 f hf, (c3.mem hkk hm).2.1, if_neg (fun q => h5 (lvc_inj hkk (Or.inr rfl) (q.trans e9.symm))), if_pos ((bits f hf).mpr hs)]
        · right
          by_cases h1 : k = σ.tgt
          · subst h1
            exact ⟨σ.tgt, hlt, by rw [insS_t p1]; exact (cut_mem (nd _ hlt) p3).mpr (Or.inr ⟨hm, fun z => hs ((srcT f hm).mpr z)⟩)⟩
          · by_cases h2 : σ.tgt = 0 ∨ k ≠ σ.tgt - 1
            · exact ⟨k, hkk, by rw [insS_o h5 h1 h2]; exact hm⟩
            · have h0 : σ.tgt ≠ 0 := fun q => h2 (Or.inl q)
              have hk1 : k = σ.tgt - 1 := Decidable.byContradiction fun q => h2 (Or.inr q)
              subst hk1
              exact ⟨σ.tgt - 1, hkk, by rw [insS_s p1 h0]; exact (cut_mem (nd _ hkk) (p2 h0).1).mpr (Or.inr ⟨hm, fun z => hs ((srcS h0 f hm).mpr z)⟩)⟩
theorem m_inst_l1 (hX : Fx n S R) (x1 : Int32) {I0 : ab_II} {lv : Int32} (hlv : I0 39 21 + 1 = lv) (post : ab_Po) (hpost : ∀ J, fM I0 J [44, 57] [] → (∀ f, f < 330 → J 44 f = if I0 44 f = 9 then lv else if I0 57 f ≠ 0 then -1 else I0 44 f) → ∀ L, ab_sub L [(0, .ref 39), (1, .int x1)] → wp 0 0 0 0 MX7_install 91 L [] (n, S, R, J) post) :
    ∀ (d t : Nat) (y : Int32) (J : ab_II) (L : List (Nat × Value)), 330 = t + d → y = nI t → fM I0 J [44, 57] [] → (∀ f, f < t → J 44 f = if I0 44 f = 9 then lv else if I0 57 f ≠ 0 then -1 else I0 44 f) → (∀ f, t ≤ f → J 44 f = I0 44 f ∧ J 57 f = I0 57 f) → ab_sub L [(0, .ref 39), (1, .int x1), (2, .int y)] → wp 0 0 0 0 MX7_install 29 L [] (n, S, R, J) post := by
  have z44 : (S 44).2 = 330 := hX.len (by decide)
  have z57 : (S 57).2 = 330 := hX.len (by decide)
  have t330 : (330 : Int32).toInt = 330 := by decide +kernel
  intro d
  induction d with
  | zero =>
    intro t y J L ht hy hf h1 h2 hL0
    refine wp_loc hL0 ?_
    have ey : y.toInt = t := by rw [hy, tI_n (by omega)]
    refine wp_iload_n (pc := 29) dX7_install_29 rfl ?_
    refine wp_sipush (pc := 30) (v := 330) dX7_install_30 (by decide) ?_
    refine wp_icmp_ge (pc := 33) (tgt := 91) dX7_install_33 (by decide) (fun hc => ?_) (fun hc => ?_)
    · skip
      exact hpost J hf (fun f q => h1 f (by omega)) _ ⟨rfl, rfl, trivial⟩
    · rw [t330] at hc; omega
  | succ d ih =>
    intro t y J L ht hy hf h1 h2 hL0
    refine wp_loc hL0 ?_
    have ey : y.toInt = t := by rw [hy, tI_n (by omega)]
    have cy : y.toNatClampNeg = t := by rw [tI_c]; omega
    obtain ⟨o1, o2⟩ := h2 t (Nat.le_refl t)
    have nxt : ∀ (J2 : ab_II), fM I0 J2 [44, 57] [] → J2 44 t = (if I0 44 t = 9 then lv else if I0 57 t ≠ 0 then -1 else I0 44 t) → (∀ f, f ≠ t → J2 44 f = J 44 f) → (∀ f, J2 57 f = J 57 f) → ∀ L, ab_sub L [(0, .ref 39), (1, .int x1), (2, .int y)] → wp 0 0 0 0 MX7_install 78 L [] (n, S, R, J2) post := by
      intro J2 hf2 g1 g2 g3 L2 hL2
      refine wp_loc hL2 ?_
      first | refine wp_aload_n (pc := 78) dX7_install_78 rfl ?_ | refine wp_aload_nN (pc := 78) dX7_install_78 rfl ?_
      refine wp_getR (pc := 79) dX7_install_79 fl_LevelStoreModel_61 (by first | assumption | exact Fx.ok (by assumption) (by decide)) rfl (by first | assumption | exact Fx.ref (by assumption) rfl) ?_
      refine wp_iload_n (pc := 82) dX7_install_82 rfl ?_
      refine wp_iconst (pc := 83) (v := 0) dX7_install_83 (by decide) ?_
      refine wp_bastore (pc := 84) dX7_install_84 (by first | assumption | exact Fx.ok (by assumption) (by decide)) (in_I (by omega) (by rw [z57]; omega)) (by first | exact Or.inl rfl | exact Or.inr rfl | assumption) ?_
      rw [cy]
      refine wp_iinc (pc := 85) dX7_install_85 rfl (by decide) rfl ?_
      refine wp_goto (pc := 88) (tgt := 29) dX7_install_88 (by decide) ?_
      refine ih (t + 1) _ _ _ (by omega) (by rw [hy]; exact nI_i1 t) (hf2.tr1 (fM.ua (by simp) (by decide))) (fun f q => ?_) (fun f q => ?_) ⟨rfl, rfl, rfl, trivial⟩
      · rw [ab_u2_r _ _ (by decide)]
        by_cases q2 : f = t
        · rw [q2]; exact g1
        · rw [g2 f q2]; exact h1 f (by omega)
      · rw [ab_u2_r _ _ (by decide), ab_u2_n _ _ (Or.inr (by omega)), g2 f (by omega), g3 f]; exact h2 f (by omega)
    refine wp_iload_n (pc := 29) dX7_install_29 rfl ?_
    refine wp_sipush (pc := 30) (v := 330) dX7_install_30 (by decide) ?_
    refine wp_icmp_ge (pc := 33) (tgt := 91) dX7_install_33 (by decide) (fun hc => ?_) (fun hc => ?_)
    · rw [t330] at hc; omega
    · skip
      first | refine wp_aload_n (pc := 36) dX7_install_36 rfl ?_ | refine wp_aload_nN (pc := 36) dX7_install_36 rfl ?_
      refine wp_getR (pc := 37) dX7_install_37 fl_LevelStoreModel_22 (by first | assumption | exact Fx.ok (by assumption) (by decide)) rfl (by first | assumption | exact Fx.ref (by assumption) rfl) ?_
      refine wp_iload_n (pc := 40) dX7_install_40 rfl ?_
      refine wp_iaload (pc := 41) dX7_install_41 (by first | assumption | exact Fx.ok (by assumption) (by decide)) (in_I (by omega) (by rw [z44]; omega)) ?_
      rw [cy, o1]
      refine wp_bipush (pc := 42) (v := 9) dX7_install_42 (by decide) ?_
      refine wp_icmp_ne (pc := 44) (tgt := 62) dX7_install_44 (by decide) (fun hc => ?_) (fun hc => ?_)
      · have hn9 : I0 44 t ≠ 9 := fun q => hc (by rw [q])
        first | refine wp_aload_n (pc := 62) dX7_install_62 rfl ?_ | refine wp_aload_nN (pc := 62) dX7_install_62 rfl ?_
        refine wp_getR (pc := 63) dX7_install_63 fl_LevelStoreModel_61 (by first | assumption | exact Fx.ok (by assumption) (by decide)) rfl (by first | assumption | exact Fx.ref (by assumption) rfl) ?_
        refine wp_iload_n (pc := 66) dX7_install_66 rfl ?_
        refine wp_baload (pc := 67) dX7_install_67 (by first | assumption | exact Fx.ok (by assumption) (by decide)) (in_I (by omega) (by rw [z57]; omega)) ?_
        rw [cy, o2]
        refine wp_if_eq (pc := 68) (tgt := 78) dX7_install_68 (by decide) (fun hc => ?_) (fun hc => ?_)
        · have h0 : ¬ I0 57 t ≠ 0 := fun q => q (tI_eq hc)
          first
          | exact nxt J hf (by rw [if_neg hn9, if_neg h0, o1]) (fun f q => rfl) (fun f => rfl) _ ⟨rfl, rfl, rfl, trivial⟩
          | exact nxt _ (hf.tr1 (fM.ua (by simp) (by decide))) (by rw [ab_u2_s, if_pos h9]) (fun f q => ab_u2_n _ _ (Or.inr q)) (fun f => by rw [ab_u2_r _ _ (by decide)]) _ ⟨rfl, rfl, rfl, trivial⟩
          | (rw [cy]; exact nxt _ (hf.tr1 (fM.ua (by simp) (by decide))) (by rw [ab_u2_s, if_neg hn9, if_pos h0]) (fun f q => ab_u2_n _ _ (Or.inr q)) (fun f => by rw [ab_u2_r _ _ (by decide)]) _ ⟨rfl, rfl, rfl, trivial⟩)
        · have h0 : I0 57 t ≠ 0 := fun q => hc (by rw [q]; rfl)
          first | refine wp_aload_n (pc := 71) dX7_install_71 rfl ?_ | refine wp_aload_nN (pc := 71) dX7_install_71 rfl ?_
          refine wp_getR (pc := 72) dX7_install_72 fl_LevelStoreModel_22 (by first | assumption | exact Fx.ok (by assumption) (by decide)) rfl (by first | assumption | exact Fx.ref (by assumption) rfl) ?_
          refine wp_iload_n (pc := 75) dX7_install_75 rfl ?_
          refine wp_iconst (pc := 76) (v := -1) dX7_install_76 (by decide) ?_
          refine wp_iastore (pc := 77) dX7_install_77 (by first | assumption | exact Fx.ok (by assumption) (by decide)) (in_I (by omega) (by rw [z44]; omega)) ?_
          first
          | exact nxt J hf (by rw [if_neg hn9, if_neg h0, o1]) (fun f q => rfl) (fun f => rfl) _ ⟨rfl, rfl, rfl, trivial⟩
          | exact nxt _ (hf.tr1 (fM.ua (by simp) (by decide))) (by rw [ab_u2_s, if_pos h9]) (fun f q => ab_u2_n _ _ (Or.inr q)) (fun f => by rw [ab_u2_r _ _ (by decide)]) _ ⟨rfl, rfl, rfl, trivial⟩
          | (rw [cy]; exact nxt _ (hf.tr1 (fM.ua (by simp) (by decide))) (by rw [ab_u2_s, if_neg hn9, if_pos h0]) (fun f q => ab_u2_n _ _ (Or.inr q)) (fun f => by rw [ab_u2_r _ _ (by decide)]) _ ⟨rfl, rfl, rfl, trivial⟩)
      · have h9 : I0 44 t = 9 := tI_eq hc
        first | refine wp_aload_n (pc := 47) dX7_install_47 rfl ?_ | refine wp_aload_nN (pc := 47) dX7_install_47 rfl ?_
        refine wp_getR (pc := 48) dX7_install_48 fl_LevelStoreModel_22 (by first | assumption | exact Fx.ok (by assumption) (by decide)) rfl (by first | assumption | exact Fx.ref (by assumption) rfl) ?_
        refine wp_iload_n (pc := 51) dX7_install_51 rfl ?_
        first | refine wp_aload_n (pc := 52) dX7_install_52 rfl ?_ | refine wp_aload_nN (pc := 52) dX7_install_52 rfl ?_
        refine wp_getI (pc := 53) dX7_install_53 fl_LevelStoreModel_150 (by first | assumption | exact Fx.ok (by assumption) (by decide)) rfl ?_
        refine wp_iconst (pc := 56) (v := 1) dX7_install_56 (by decide) ?_
        refine wp_iadd (pc := 57) dX7_install_57 ?_
        rw [hf.2 21 (by simp), hlv]
        refine wp_iastore (pc := 58) dX7_install_58 (by first | assumption | exact Fx.ok (by assumption) (by decide)) (in_I (by omega) (by rw [z44]; omega)) ?_
        rw [cy]
        refine wp_goto (pc := 59) (tgt := 78) dX7_install_59 (by decide) ?_
        first
        | exact nxt J hf (by rw [if_neg hn9, if_neg h0, o1]) (fun f q => rfl) (fun f => rfl) _ ⟨rfl, rfl, rfl, trivial⟩
        | exact nxt _ (hf.tr1 (fM.ua (by simp) (by decide))) (by rw [ab_u2_s, if_pos h9]) (fun f q => ab_u2_n _ _ (Or.inr q)) (fun f => by rw [ab_u2_r _ _ (by decide)]) _ ⟨rfl, rfl, rfl, trivial⟩
        | (rw [cy]; exact nxt _ (hf.tr1 (fM.ua (by simp) (by decide))) (by rw [ab_u2_s, if_neg hn9, if_pos h0]) (fun f q => ab_u2_n _ _ (Or.inr q)) (fun f => by rw [ab_u2_r _ _ (by decide)]) _ ⟨rfl, rfl, rfl, trivial⟩)
theorem m_inst_l2 (hX : Fx n S R) (x1 : Int32) {I0 : ab_II} {log : List En} {jl : Nat} (hl : log.length ≤ 24) (hjl : jl ≤ log.length) (h1 : I0 39 1 = nI log.length) (h29 : I0 39 29 = nI jl) (ha : arr3 I0 40 41 42 0 log) (post : ab_Po) (hpost : ∀ J, fM I0 J [40, 41, 42] [] → arr3 J 40 41 42 0 (log.drop jl) → ∀ L, ab_sub L [(0, .ref 39), (1, .int x1)] → wp 0 0 0 0 MX7_install 168 L [] (n, S, R, J) post) :
    ∀ (d t : Nat) (y : Int32) (J : ab_II) (L : List (Nat × Value)), log.length = jl + t + d → y = nI (jl + t) → fM I0 J [40, 41, 42] [] → (∀ j, j < t → J 40 j = I0 40 (jl + j) ∧ J 41 j = I0 41 (jl + j) ∧ J 42 j = I0 42 (jl + j)) → (∀ j, t ≤ j → J 40 j = I0 40 j ∧ J 41 j = I0 41 j ∧ J 42 j = I0 42 j) → ab_sub L [(0, .ref 39), (1, .int x1), (2, .int y)] → wp 0 0 0 0 MX7_install 103 L [] (n, S, R, J) post := by
  have z40 : (S 40).2 = 24 := hX.len (by decide)
  have z41 : (S 41).2 = 24 := hX.len (by decide)
  have z42 : (S 42).2 = 24 := hX.len (by decide)
  intro d
  induction d with
  | zero =>
    intro t y J L ht hy hf g1 g2 hL0
    refine wp_loc hL0 ?_
    have ey : y.toInt = ((jl + t : Nat) : Int) := by rw [hy, tI_n (by omega)]
    have e1 : (J 39 1).toInt = log.length := by rw [hf.2 1 (by simp), h1, tI_n (by omega)]
    refine wp_iload_n (pc := 103) dX7_install_103 rfl ?_
    first | refine wp_aload_n (pc := 104) dX7_install_104 rfl ?_ | refine wp_aload_nN (pc := 104) dX7_install_104 rfl ?_
    refine wp_getI (pc := 105) dX7_install_105 fl_LevelStoreModel_93 (by first | assumption | exact Fx.ok (by assumption) (by decide)) rfl ?_
    refine wp_icmp_ge (pc := 108) (tgt := 168) dX7_install_108 (by decide) (fun hc => ?_) (fun hc => ?_)
    · skip
      refine hpost J hf (fun j e q => ?_) _ ⟨rfl, rfl, trivial⟩
      rw [List.getElem?_drop] at q
      have hjl2 := (List.getElem?_eq_some_iff.mp q).1
      have := ha _ e q
      rw [Nat.zero_add] at this
      rw [Nat.zero_add, (g1 j (by omega)).1, (g1 j (by omega)).2.1, (g1 j (by omega)).2.2]
      exact this
    · omega
  | succ d ih =>
    intro t y J L ht hy hf g1 g2 hL0
    refine wp_loc hL0 ?_
    have ey : y.toInt = ((jl + t : Nat) : Int) := by rw [hy, tI_n (by omega)]
    have cy : y.toNatClampNeg = jl + t := by rw [tI_c]; omega
    have e1 : (J 39 1).toInt = log.length := by rw [hf.2 1 (by simp), h1, tI_n (by omega)]
    have es : y - nI jl = nI t := by rw [hy, pk_sub (by omega)]; congr 1; omega
    have et : (nI t).toInt = t := tI_n (by omega)
    have ct : (nI t).toNatClampNeg = t := nI_c (by omega)
    obtain ⟨b1, b2, b3⟩ := g2 (jl + t) (by omega)
    refine wp_iload_n (pc := 103) dX7_install_103 rfl ?_
    first | refine wp_aload_n (pc := 104) dX7_install_104 rfl ?_ | refine wp_aload_nN (pc := 104) dX7_install_104 rfl ?_
    refine wp_getI (pc := 105) dX7_install_105 fl_LevelStoreModel_93 (by first | assumption | exact Fx.ok (by assumption) (by decide)) rfl ?_
    refine wp_icmp_ge (pc := 108) (tgt := 168) dX7_install_108 (by decide) (fun hc => ?_) (fun hc => ?_)
    · omega
    · skip
      first | refine wp_aload_n (pc := 111) dX7_install_111 rfl ?_ | refine wp_aload_nN (pc := 111) dX7_install_111 rfl ?_
      refine wp_getR (pc := 112) dX7_install_112 fl_LevelStoreModel_7 (by first | assumption | exact Fx.ok (by assumption) (by decide)) rfl (by first | assumption | exact Fx.ref (by assumption) rfl) ?_
      refine wp_iload_n (pc := 115) dX7_install_115 rfl ?_
      first | refine wp_aload_n (pc := 116) dX7_install_116 rfl ?_ | refine wp_aload_nN (pc := 116) dX7_install_116 rfl ?_
      refine wp_getI (pc := 117) dX7_install_117 fl_LevelStoreModel_166 (by first | assumption | exact Fx.ok (by assumption) (by decide)) rfl ?_
      rw [hf.2 29 (by simp), h29]
      refine wp_isub (pc := 120) dX7_install_120 ?_
      rw [es]
      first | refine wp_aload_n (pc := 121) dX7_install_121 rfl ?_ | refine wp_aload_nN (pc := 121) dX7_install_121 rfl ?_
      refine wp_getR (pc := 122) dX7_install_122 fl_LevelStoreModel_7 (by first | assumption | exact Fx.ok (by assumption) (by decide)) rfl (by first | assumption | exact Fx.ref (by assumption) rfl) ?_
      refine wp_iload_n (pc := 125) dX7_install_125 rfl ?_
      refine wp_iaload (pc := 126) dX7_install_126 (by first | assumption | exact Fx.ok (by assumption) (by decide)) (in_I (by omega) (by rw [z40]; omega)) ?_
      rw [cy, b1]
      refine wp_iastore (pc := 127) dX7_install_127 (by first | assumption | exact Fx.ok (by assumption) (by decide)) (in_I (by omega) (by rw [z40]; omega)) ?_
      first | refine wp_aload_n (pc := 128) dX7_install_128 rfl ?_ | refine wp_aload_nN (pc := 128) dX7_install_128 rfl ?_
      refine wp_getR (pc := 129) dX7_install_129 fl_LevelStoreModel_13 (by first | assumption | exact Fx.ok (by assumption) (by decide)) rfl (by first | assumption | exact Fx.ref (by assumption) rfl) ?_
      refine wp_iload_n (pc := 132) dX7_install_132 rfl ?_
      first | refine wp_aload_n (pc := 133) dX7_install_133 rfl ?_ | refine wp_aload_nN (pc := 133) dX7_install_133 rfl ?_
      refine wp_getI (pc := 134) dX7_install_134 fl_LevelStoreModel_166 (by first | assumption | exact Fx.ok (by assumption) (by decide)) rfl ?_
      rw [ab_u2_r _ _ (by decide), hf.2 29 (by simp), h29]
      refine wp_isub (pc := 137) dX7_install_137 ?_
      rw [es]
      first | refine wp_aload_n (pc := 138) dX7_install_138 rfl ?_ | refine wp_aload_nN (pc := 138) dX7_install_138 rfl ?_
      refine wp_getR (pc := 139) dX7_install_139 fl_LevelStoreModel_13 (by first | assumption | exact Fx.ok (by assumption) (by decide)) rfl (by first | assumption | exact Fx.ref (by assumption) rfl) ?_
      refine wp_iload_n (pc := 142) dX7_install_142 rfl ?_
      refine wp_iaload (pc := 143) dX7_install_143 (by first | assumption | exact Fx.ok (by assumption) (by decide)) (in_I (by omega) (by rw [z41]; omega)) ?_
      rw [cy, ab_u2_r _ _ (by decide), b2]
      refine wp_iastore (pc := 144) dX7_install_144 (by first | assumption | exact Fx.ok (by assumption) (by decide)) (in_I (by omega) (by rw [z41]; omega)) ?_
      first | refine wp_aload_n (pc := 145) dX7_install_145 rfl ?_ | refine wp_aload_nN (pc := 145) dX7_install_145 rfl ?_
      refine wp_getR (pc := 146) dX7_install_146 fl_LevelStoreModel_16 (by first | assumption | exact Fx.ok (by assumption) (by decide)) rfl (by first | assumption | exact Fx.ref (by assumption) rfl) ?_
      refine wp_iload_n (pc := 149) dX7_install_149 rfl ?_
      first | refine wp_aload_n (pc := 150) dX7_install_150 rfl ?_ | refine wp_aload_nN (pc := 150) dX7_install_150 rfl ?_
      refine wp_getI (pc := 151) dX7_install_151 fl_LevelStoreModel_166 (by first | assumption | exact Fx.ok (by assumption) (by decide)) rfl ?_
      rw [ab_u2_n _ _ (Or.inl (by decide)), ab_u2_n _ _ (Or.inl (by decide)), hf.2 29 (by simp), h29]
      refine wp_isub (pc := 154) dX7_install_154 ?_
      rw [es]
      first | refine wp_aload_n (pc := 155) dX7_install_155 rfl ?_ | refine wp_aload_nN (pc := 155) dX7_install_155 rfl ?_
      refine wp_getR (pc := 156) dX7_install_156 fl_LevelStoreModel_16 (by first | assumption | exact Fx.ok (by assumption) (by decide)) rfl (by first | assumption | exact Fx.ref (by assumption) rfl) ?_
      refine wp_iload_n (pc := 159) dX7_install_159 rfl ?_
      refine wp_iaload (pc := 160) dX7_install_160 (by first | assumption | exact Fx.ok (by assumption) (by decide)) (in_I (by omega) (by rw [z42]; omega)) ?_
      rw [cy, ab_u2_n _ _ (Or.inl (by decide)), ab_u2_n _ _ (Or.inl (by decide)), b3]
      refine wp_iastore (pc := 161) dX7_install_161 (by first | assumption | exact Fx.ok (by assumption) (by decide)) (in_I (by omega) (by rw [z42]; omega)) ?_
      rw [ct]
      refine wp_iinc (pc := 162) dX7_install_162 rfl (by decide) rfl ?_
      refine wp_goto (pc := 165) (tgt := 103) dX7_install_165 (by decide) ?_
      have hv : ∀ j, j ≠ t → (ab_u2 (ab_u2 (ab_u2 J 40 t (I0 40 (jl + t))) 41 t (I0 41 (jl + t))) 42 t (I0 42 (jl + t))) 40 j = J 40 j ∧ (ab_u2 (ab_u2 (ab_u2 J 40 t (I0 40 (jl + t))) 41 t (I0 41 (jl + t))) 42 t (I0 42 (jl + t))) 41 j = J 41 j ∧ (ab_u2 (ab_u2 (ab_u2 J 40 t (I0 40 (jl + t))) 41 t (I0 41 (jl + t))) 42 t (I0 42 (jl + t))) 42 j = J 42 j := fun j q => by
        rw [ab_u2_n _ _ (Or.inr q), ab_u2_n _ _ (Or.inr q), ab_u2_n _ _ (Or.inr q), ab_u2_n _ _ (Or.inr q), ab_u2_n _ _ (Or.inr q), ab_u2_n _ _ (Or.inr q), ab_u2_n _ _ (Or.inr q), ab_u2_n _ _ (Or.inr q), ab_u2_n _ _ (Or.inr q)]
        exact ⟨rfl, rfl, rfl⟩
      refine ih (t + 1) _ _ _ (by omega) (by rw [hy]; exact nI_i1 _) (hf.tr1 (((fM.ua (by simp) (by decide)).tr1 (fM.ua (by simp) (by decide))).tr1 (fM.ua (by simp) (by decide)))) (fun j q => ?_) (fun j q => ?_) ⟨rfl, rfl, rfl, trivial⟩
      · by_cases q2 : j = t
        · subst q2
          rw [ab_u2_n _ _ (Or.inl (by decide)), ab_u2_n _ _ (Or.inl (by decide)), ab_u2_s, ab_u2_n _ _ (Or.inl (by decide)), ab_u2_s, ab_u2_s]
          exact ⟨rfl, rfl, rfl⟩
        · rw [(hv j q2).1, (hv j q2).2.1, (hv j q2).2.2]; exact g1 j (by omega)
      · rw [(hv j (by omega)).1, (hv j (by omega)).2.1, (hv j (by omega)).2.2]; exact g2 j (by omega)
end M18
