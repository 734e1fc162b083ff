/-! SORTED ROWS -/
/-- a stands ahead of b, or with it -/
abbrev leE (a b : En) : Prop := ¬ bh a b.1 b.2.1
theorem leE_iff {a b : En} : leE a b ↔ (a.1.toInt < b.1.toInt ∨ (a.1.toInt = b.1.toInt ∧ b.2.1.toInt ≤ a.2.1.toInt)) := by unfold leE bh; omega
theorem leE_tr {a b c : En} (h1 : leE a b) (h2 : leE b c) : leE a c := by rw [leE_iff] at *; omega
theorem leE_tot {a b : En} (h : ¬ leE a b) : leE b a := by rw [leE_iff] at *; omega
abbrev srtE (l : List En) : Prop := l.Pairwise leE
def insA (es l : List En) : List En := l.foldl (fun l e => ins e l) es
theorem fsrc_insA (log : List En) : fsrc log = insA [] log := rfl
theorem insR_perm (e : En) : ∀ l : List En, (insR e l).Perm (e :: l)
  | [] => List.Perm.refl _
  | x :: t => by
    show (if bh x e.1 e.2.1 then x :: insR e t else e :: x :: t).Perm _
    by_cases h : bh x e.1 e.2.1
    · rw [if_pos h]
      exact ((insR_perm e t).cons x).trans (List.Perm.swap e x t)
    · rw [if_neg h]
theorem ins_perm (e : En) (l : List En) : (ins e l).Perm (e :: l) := by
  unfold ins
  refine (List.reverse_perm _).trans ((insR_perm e _).trans ?_)
  exact (List.reverse_perm l).cons e
theorem insR_srt (e : En) : ∀ l : List En, l.Pairwise (fun a b => leE b a) → (insR e l).Pairwise (fun a b => leE b a)
  | [], _ => List.pairwise_singleton _ _
  | x :: t, h => by
    show (if bh x e.1 e.2.1 then x :: insR e t else e :: x :: t).Pairwise _
    rw [List.pairwise_cons] at h
    by_cases hb : bh x e.1 e.2.1
    · rw [if_pos hb, List.pairwise_cons]
      refine ⟨fun y hy => ?_, insR_srt e t h.2⟩
      rcases List.mem_cons.mp ((insR_perm e t).mem_iff.mp hy) with rfl | hy
      · exact leE_tot (fun q => q hb)
      · exact h.1 y hy
    · rw [if_neg hb, List.pairwise_cons, List.pairwise_cons]
      refine ⟨fun y hy => ?_, h⟩
      rcases List.mem_cons.mp hy with rfl | hy
      · exact hb
      · exact leE_tr (h.1 y hy) hb
theorem ins_srt {e : En} {l : List En} (h : srtE l) : srtE (ins e l) := by
  unfold ins
  unfold srtE
  rw [List.pairwise_reverse]
  exact insR_srt e _ (List.pairwise_reverse.mpr h)
theorem insA_perm (l : List En) : ∀ es : List En, (insA es l).Perm (es ++ l) := by
  induction l with
  | nil => intro es; rw [List.append_nil]; exact List.Perm.refl _
  | cons e l ih =>
    intro es
    refine (ih (ins e es)).trans ?_
    refine ((ins_perm e es).append_right l).trans ?_
    exact List.perm_middle.symm
theorem insA_srt (l : List En) : ∀ {es : List En}, srtE es → srtE (insA es l) := by
  induction l with
  | nil => intro es h; exact h
  | cons e l ih => intro es h; exact ih (ins_srt h)
theorem insA_app (es a b : List En) : insA es (a ++ b) = insA (insA es a) b := by unfold insA; rw [List.foldl_append]
theorem insA_len (es l : List En) : (insA es l).length = es.length + l.length := by rw [(insA_perm l es).length_eq, List.length_append]
theorem mR_perm : ∀ xs ys : List En, (mR xs ys).Perm (xs ++ ys)
  | [], ys => by rw [mR_nil1]; exact List.Perm.refl _
  | x :: xs, [] => by rw [mR_nil, List.append_nil]
  | x :: xs, y :: ys => by
    rw [mR]
    by_cases h : bh x y.1 y.2.1
    · rw [if_pos h]
      exact (mR_perm xs (y :: ys)).cons x
    · rw [if_neg h]
      exact ((mR_perm (x :: xs) ys).cons y).trans List.perm_middle.symm
termination_by xs ys => xs.length + ys.length
theorem mR_srt : ∀ xs ys : List En, xs.Pairwise (fun a b => leE b a) → ys.Pairwise (fun a b => leE b a) → (mR xs ys).Pairwise (fun a b => leE b a)
  | [], ys, _, h => by rw [mR_nil1]; exact h
  | x :: xs, [], h, _ => by rw [mR_nil]; exact h
  | x :: xs, y :: ys, hx, hy => by
    rw [mR]
    have hx' := List.pairwise_cons.mp hx
    have hy' := List.pairwise_cons.mp hy
    by_cases h : bh x y.1 y.2.1
    · rw [if_pos h, List.pairwise_cons]
      refine ⟨fun z hz => ?_, mR_srt xs (y :: ys) hx'.2 hy⟩
      have hyx : leE y x := leE_tot (fun q => q h)
      rcases List.mem_append.mp ((mR_perm xs (y :: ys)).mem_iff.mp hz) with hz | hz
      · exact hx'.1 z hz
      · rcases List.mem_cons.mp hz with rfl | hz
        · exact hyx
        · exact leE_tr (hy'.1 z hz) hyx
    · rw [if_neg h, List.pairwise_cons]
      refine ⟨fun z hz => ?_, mR_srt (x :: xs) ys hx hy'.2⟩
      rcases List.mem_append.mp ((mR_perm (x :: xs) ys).mem_iff.mp hz) with hz | hz
      · rcases List.mem_cons.mp hz with rfl | hz
        · exact h
        · exact leE_tr (hx'.1 z hz) h
      · exact hy'.1 z hz
termination_by xs ys => xs.length + ys.length
theorem mrg_perm (l l' : List En) : (mrg l l').Perm (l ++ l') := by
  unfold mrg
  refine (List.reverse_perm _).trans ((mR_perm _ _).trans ?_)
  exact (List.reverse_perm l).append (List.reverse_perm l')
theorem mrg_srt {l l' : List En} (h : srtE l) (h' : srtE l') : srtE (mrg l l') := by
  unfold mrg
  unfold srtE
  rw [List.pairwise_reverse]
  exact mR_srt _ _ (List.pairwise_reverse.mpr h) (List.pairwise_reverse.mpr h')
theorem mgF_perm (fs : List FA) : ∀ es : List En, (fs.foldl mgF es).Perm (es ++ fs.flatMap FA.es) := by
  induction fs with
  | nil => intro es; rw [List.flatMap_nil, List.append_nil]; exact List.Perm.refl _
  | cons F fs ih =>
    intro es
    rw [List.foldl_cons, List.flatMap_cons, ← List.append_assoc]
    exact (ih (mgF es F)).trans ((mrg_perm es F.es).append_right _)
theorem mgF_srt (fs : List FA) : ∀ {es : List En}, srtE es → (∀ F ∈ fs, srtE F.es) → srtE (fs.foldl mgF es) := by
  induction fs with
  | nil => intro es h _; exact h
  | cons F fs ih =>
    intro es h hF
    exact ih (mrg_srt h (hF F List.mem_cons_self)) (fun G hG => hF G (List.mem_cons_of_mem _ hG))
theorem msrc_perm (up down : List FA) : (msrc up down).Perm (down.flatMap FA.es ++ up.flatMap FA.es) := by
  unfold msrc
  refine (mgF_perm up _).trans ?_
  have := mgF_perm down []
  rw [List.nil_append] at this
  exact this.append_right _
theorem msrc_srt {up down : List FA} (h : ∀ F ∈ up, srtE F.es) (h' : ∀ F ∈ down, srtE F.es) : srtE (msrc up down) := mgF_srt up (mgF_srt down List.Pairwise.nil h') h
theorem srt_uniq {l l' : List En} (h : srtE l) (h' : srtE l') (hp : l.Perm l') (hu : uqN l) : l = l' := by
  refine List.Perm.eq_of_pairwise (le := leE) (fun a b ha hb h1 h2 => ?_) h h' hp
  rw [leE_iff] at h1 h2
  exact hu a ha b (hp.mem_iff.mpr hb) (tI_eq (by omega))
theorem uqN.sub {l l' : List En} (h : uqN l) (hs : ∀ e ∈ l', e ∈ l) : uqN l' := fun e he e' he' q => h e (hs e he) e' (hs e' he') q
