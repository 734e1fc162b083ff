/-! WHAT ALWAYS HOLDS -/
def nu (v : Int) (e : En) : Bool := decide (e.2.1.toInt = v)
theorem cnt1 {α : Type} {p : α → Bool} : ∀ {l : List α}, l.countP p ≤ 1 → ∀ {a b : α}, a ∈ l → b ∈ l → p a = true → p b = true → a = b
  | [], _, a, _, ha, _, _, _ => absurd ha List.not_mem_nil
  | x :: l, h, a, b, ha, hb, pa, pb => by
    have zero : ∀ {c : α}, c ∈ l → p c = true → 1 ≤ l.countP p := fun hc pc => List.countP_pos_iff.mpr ⟨_, hc, pc⟩
    by_cases hx : p x = true
    · rw [List.countP_cons_of_pos hx] at h
      rcases List.mem_cons.mp ha with rfl | ha
      · rcases List.mem_cons.mp hb with rfl | hb
        · rfl
        · have := zero hb pb; omega
      · have := zero ha pa; omega
    · rw [List.countP_cons_of_neg hx] at h
      rcases List.mem_cons.mp ha with rfl | ha
      · exact absurd pa hx
      · rcases List.mem_cons.mp hb with rfl | hb
        · exact absurd pb hx
        · exact cnt1 h ha hb pa pb
theorem cntLen {l : List En} (h : ∀ v, l.countP (nu v) ≤ 1) {N : Nat} (hb : ∀ e ∈ l, 1 ≤ e.2.1.toInt ∧ e.2.1.toInt ≤ N) : l.length ≤ N := by
  have step : ∀ (l : List En) (N : Nat), l.countP (fun e => decide (1 ≤ e.2.1.toInt ∧ e.2.1.toInt ≤ ((N + 1 : Nat) : Int))) ≤ l.countP (fun e => decide (1 ≤ e.2.1.toInt ∧ e.2.1.toInt ≤ (N : Int))) + l.countP (nu ((N + 1 : Nat) : Int)) := by
    intro l N
    induction l with
    | nil => simp
    | cons e l ih =>
      rw [List.countP_cons, List.countP_cons, List.countP_cons]
      unfold nu at *
      by_cases h1 : 1 ≤ e.2.1.toInt ∧ e.2.1.toInt ≤ ((N + 1 : Nat) : Int)
      · by_cases h2 : e.2.1.toInt = ((N + 1 : Nat) : Int)
        · rw [if_pos (decide_eq_true h1), if_pos (decide_eq_true h2)]; split <;> omega
        · have h3 : 1 ≤ e.2.1.toInt ∧ e.2.1.toInt ≤ (N : Int) := by omega
          rw [if_pos (decide_eq_true h1), if_pos (decide_eq_true h3)]
          omega
      · rw [if_neg (by simpa using h1)]
        omega
  have all : ∀ N : Nat, l.countP (fun e => decide (1 ≤ e.2.1.toInt ∧ e.2.1.toInt ≤ (N : Int))) ≤ N := by
    intro N
    induction N with
    | zero =>
      rw [List.countP_eq_zero.mpr (fun e _ => by simp; omega)]
      exact Nat.le_refl _
    | succ N ih => have := step l N; have := h ((N + 1 : Nat) : Int); omega
  have e : l.countP (fun e => decide (1 ≤ e.2.1.toInt ∧ e.2.1.toInt ≤ (N : Int))) = l.length := List.countP_eq_length.mpr (fun e he => by simpa using hb e he)
  have := all N
  omega
theorem uqN_of {l : List En} (h : ∀ v, l.countP (nu v) ≤ 1) : uqN l := fun e he e' he' q => cnt1 (h e.2.1.toInt) he he' (by simp [nu]) (by simp [nu, q])
/-! sorted rows -/
theorem srt_lt {l : List En} (h : srtE l) {i j : Nat} {a b : En} (hij : i ≤ j) (hi : l[i]? = some a) (hj : l[j]? = some b) : a.1.toInt ≤ b.1.toInt := by
  by_cases q : i = j
  · subst q; rw [hi] at hj; cases hj; exact Int.le_refl _
  · obtain ⟨li, rfl⟩ := List.getElem?_eq_some_iff.mp hi
    obtain ⟨lj, rfl⟩ := List.getElem?_eq_some_iff.mp hj
    have := List.pairwise_iff_getElem.mp h i j li lj (by omega)
    rw [leE_iff] at this
    omega
theorem srt_kn {l : List En} (h : srtE l) : kn l := fun i a b ha hb => srt_lt h (by omega) ha hb
theorem srt_kB {l : List En} (h : srtE l) : kB l := by
  intro e he
  obtain ⟨i, hi⟩ := List.getElem?_of_mem he
  have hl := (List.getElem?_eq_some_iff.mp hi).1
  have hne : l ≠ [] := fun q => by rw [q] at he; exact absurd he List.not_mem_nil
  obtain ⟨a, ha⟩ : ∃ a, l[0]? = some a := ⟨_, List.getElem?_eq_getElem (by omega)⟩
  obtain ⟨b, hb⟩ : ∃ b, l[l.length - 1]? = some b := ⟨_, List.getElem?_eq_getElem (by omega)⟩
  have e1 : lk l = a.1 := lk_get ha
  have e2 : gk l = b.1 := by unfold gk; rw [List.getLast?_eq_getElem?, hb]
  rw [e1, e2]
  exact ⟨srt_lt h (by omega) ha hi, srt_lt h (by omega) hi hb⟩
theorem gk_mem {l : List En} (h : l ≠ []) : ∃ e ∈ l, gk l = e.1 := by
  have hl := List.length_pos_iff.mpr h
  obtain ⟨b, hb⟩ : ∃ b, l[l.length - 1]? = some b := ⟨_, List.getElem?_eq_getElem (by omega)⟩
  exact ⟨b, List.mem_of_getElem? hb, by unfold gk; rw [List.getLast?_eq_getElem?, hb]⟩
theorem lk_mem {l : List En} (h : l ≠ []) : ∃ e ∈ l, lk l = e.1 := by
  cases l with
  | nil => exact absurd rfl h
  | cons a t => exact ⟨a, List.mem_cons_self, rfl⟩
/-! counting entries and files -/
def cE (p : En → Bool) (fs : List FA) : Nat := (fs.flatMap FA.es).countP p
theorem cE_app (p : En → Bool) (a b : List FA) : cE p (a ++ b) = cE p a + cE p b := by unfold cE; rw [List.flatMap_append, List.countP_append]
theorem cE_nil (p : En → Bool) : cE p [] = 0 := rfl
theorem cE_cut (p : En → Bool) (l m : List FA) {a b : Nat} (h : a ≤ b) : cE p (cutF l a b m) + cE p (slice l a b) = cE p l + cE p m := by
  have e : l = l.take a ++ slice l a b ++ l.drop b := by
    unfold slice
    conv => lhs; rw [← List.take_append_drop b l]
    congr 1
    conv => lhs; rw [← List.take_append_drop a (l.take b)]
    rw [List.take_take, show min a b = a by omega]
  have e2 : cE p l = cE p (l.take a) + cE p (slice l a b) + cE p (l.drop b) := by
    conv => lhs; rw [e]
    rw [cE_app, cE_app]
  unfold cutF
  rw [cE_app, cE_app, e2]
  omega
theorem cE_all (fs : List FA) : cE (fun _ => true) fs = (fs.flatMap FA.es).length := by unfold cE; rw [List.countP_true]
def sm (F : FA) : Bool := decide (F.es.length < 8)
theorem cS_cut (l m : List FA) {a b : Nat} (h : a ≤ b) : (cutF l a b m).countP sm + (slice l a b).countP sm = l.countP sm + m.countP sm := by
  have e : l = l.take a ++ slice l a b ++ l.drop b := by
    unfold slice
    conv => lhs; rw [← List.take_append_drop b l]
    congr 1
    conv => lhs; rw [← List.take_append_drop a (l.take b)]
    rw [List.take_take, show min a b = a by omega]
  have e2 : l.countP sm = (l.take a).countP sm + (slice l a b).countP sm + (l.drop b).countP sm := by
    conv => lhs; rw [e]
    rw [List.countP_append, List.countP_append]
  unfold cutF
  rw [List.countP_append, List.countP_append, e2]
  omega
theorem big8 (fs : List FA) : 8 * fs.length ≤ (fs.flatMap FA.es).length + 8 * fs.countP sm := by
  induction fs with
  | nil => simp
  | cons F fs ih =>
    rw [List.length_cons, List.flatMap_cons, List.length_append, List.countP_cons]
    unfold sm at *
    by_cases h : F.es.length < 8
    · rw [if_pos (decide_eq_true h)]; omega
    · rw [if_neg (by simpa using h)]; omega
abbrev nSm (FS : Nat → List FA) : Nat := (FS 0).countP sm + (FS 1).countP sm + (FS 2).countP sm + (FS 3).countP sm
abbrev n5 (σ : St) : Nat := (σ.FS 5).length
/-- a byte lies in a file -/
def cov (j : Nat) (F : FA) : Bool := decide (pl F ≤ j ∧ j < pl F + ln F)
/-- no byte lies in two -/
def CVR (FS : Nat → List FA) : Prop := ∀ j, (FS 0).countP (cov j) + (FS 1).countP (cov j) + (FS 2).countP (cov j) + (FS 3).countP (cov j) + (FS 5).countP (cov j) ≤ 1
theorem cnt2 {α : Type} {p : α → Bool} : ∀ {l : List α} {a b : Nat} {x y : α}, a < b → l[a]? = some x → l[b]? = some y → p x = true → p y = true → 2 ≤ l.countP p
  | [], a, b, x, y, _, h, _, _, _ => by simp at h
  | z :: l, 0, b + 1, x, y, _, h1, h2, px, py => by
    simp at h1 h2
    subst h1
    rw [List.countP_cons_of_pos px]
    have : 1 ≤ l.countP p := List.countP_pos_iff.mpr ⟨y, List.mem_of_getElem? h2, py⟩
    omega
  | z :: l, a + 1, b + 1, x, y, hab, h1, h2, px, py => by
    simp at h1 h2
    have := cnt2 (l := l) (by omega) h1 h2 px py
    have h3 := List.countP_cons (p := p) (a := z) (l := l)
    omega
theorem CVR.dj {FS : Nat → List FA} (h : CVR FS) (hl : ∀ k, lvk k → ∀ F ∈ FS k, 1 ≤ ln F) : DJ FS := by
  intro i j a b F G hi hj hF hG hne
  refine Decidable.byContradiction fun q => ?_
  have lF := hl i hi F (List.mem_of_getElem? hF)
  have lG := hl j hj G (List.mem_of_getElem? hG)
  have hc := h (max (pl F) (pl G))
  have cF : cov (max (pl F) (pl G)) F = true := decide_eq_true (by omega)
  have cG : cov (max (pl F) (pl G)) G = true := decide_eq_true (by omega)
  have one : ∀ {k c : Nat} {H : FA}, (FS k)[c]? = some H → cov (max (pl F) (pl G)) H = true → 1 ≤ (FS k).countP (cov (max (pl F) (pl G))) := fun h1 h2 => List.countP_pos_iff.mpr ⟨_, List.mem_of_getElem? h1, h2⟩
  have o1 := one hF cF
  have o2 := one hG cG
  by_cases hij : i = j
  · subst hij
    have hab : a ≠ b := hne.resolve_left (fun z => z rfl)
    have two : 2 ≤ (FS i).countP (cov (max (pl F) (pl G))) := by
      rcases Nat.lt_or_ge a b with z | z
      · exact cnt2 z hF hG cF cG
      · exact cnt2 (by omega) hG hF cG cF
    rcases (show i = 0 ∨ i = 1 ∨ i = 2 ∨ i = 3 ∨ i = 5 by unfold lvk at hi; omega) with rfl | rfl | rfl | rfl | rfl <;> omega
  · rcases (show i = 0 ∨ i = 1 ∨ i = 2 ∨ i = 3 ∨ i = 5 by unfold lvk at hi; omega) with rfl | rfl | rfl | rfl | rfl <;> rcases (show j = 0 ∨ j = 1 ∨ j = 2 ∨ j = 3 ∨ j = 5 by unfold lvk at hj; omega) with rfl | rfl | rfl | rfl | rfl <;> omega
/-- between calls, and within them -/
def Base (t : Nat) (σ : St) : Prop :=
  (σ.log.length ≤ 24 ∧ σ.syn ≤ σ.log.length ∧ σ.num ≤ t ∧ t ≤ 512 ∧ vOK σ.V) ∧
  (∀ e ∈ allE σ, ve e ∧ e.2.1.toInt ≤ σ.num) ∧ (∀ v, (allE σ).countP (nu v) ≤ 1) ∧
  (∀ k, lvk k → ∀ F ∈ σ.FS k, FOK σ.B F ∧ srtE F.es) ∧ CVR σ.FS ∧ (∀ k, 1 ≤ k → k < 4 → ldis σ k) ∧
  (n5 σ ≤ σ.nf ∧ σ.nf - n5 σ ≤ 512 * t ∧ (∀ k, k < 4 → ∀ F ∈ σ.FS k, 0 ≤ F.1.toInt ∧ F.1.toInt < ((σ.nf - n5 σ : Nat) : Int)) ∧ (∀ (i : Nat) (F : FA), (σ.FS 5)[i]? = some F → F.1 = nI (σ.nf - n5 σ + i)) ∧ ∀ (a b : Nat) (F G : FA), a < b → (σ.FS 0)[a]? = some F → (σ.FS 0)[b]? = some G → F.1.toInt < G.1.toInt) ∧ 3 * nSm σ.FS ≤ t
section IV
variable {σ : St} {t : Nat}
theorem Base.a (h : Base t σ) : σ.log.length ≤ 24 ∧ σ.syn ≤ σ.log.length ∧ σ.num ≤ t ∧ t ≤ 512 ∧ vOK σ.V := h.1
theorem Base.e (h : Base t σ) : ∀ e ∈ allE σ, ve e ∧ e.2.1.toInt ≤ σ.num := h.2.1
theorem Base.u (h : Base t σ) : ∀ v, (allE σ).countP (nu v) ≤ 1 := h.2.2.1
theorem Base.f (h : Base t σ) : ∀ k, lvk k → ∀ F ∈ σ.FS k, FOK σ.B F ∧ srtE F.es := h.2.2.2.1
theorem Base.c (h : Base t σ) : CVR σ.FS := h.2.2.2.2.1
theorem Base.l (h : Base t σ) : ∀ k, 1 ≤ k → k < 4 → ldis σ k := h.2.2.2.2.2.1
theorem Base.n (h : Base t σ) : n5 σ ≤ σ.nf ∧ σ.nf - n5 σ ≤ 512 * t ∧ (∀ k, k < 4 → ∀ F ∈ σ.FS k, 0 ≤ F.1.toInt ∧ F.1.toInt < ((σ.nf - n5 σ : Nat) : Int)) ∧ (∀ (i : Nat) (F : FA), (σ.FS 5)[i]? = some F → F.1 = nI (σ.nf - n5 σ + i)) ∧ ∀ (a b : Nat) (F G : FA), a < b → (σ.FS 0)[a]? = some F → (σ.FS 0)[b]? = some G → F.1.toInt < G.1.toInt := h.2.2.2.2.2.2.1
theorem Base.s (h : Base t σ) : 3 * nSm σ.FS ≤ t := h.2.2.2.2.2.2.2
theorem FOK.lnE {B : Nat → Int32} {F : FA} (h : FOK B F) : ln F = (enc F.es).length := by
  have := enc_len h.1
  unfold ln
  rw [h.2.2.2.1, tI_n (by omega), Int.toNat_natCast]
theorem Base.plc (h : Base t σ) : PLC σ.FS := by
  refine ⟨fun k a F hk hF => ?_, h.c.dj (fun k hk F hF => by rw [(h.f k hk F hF).1.lnE]; have := enc_pos F.es; omega)⟩
  have hf := (h.f k hk F (List.mem_of_getElem? hF)).1
  have := enc_pos F.es
  rw [hf.lnE]
  exact ⟨hf.2.2.1, hf.2.2.2.1, hf.2.2.2.2.1, by omega⟩
theorem Base.kb (h : Base t σ) : ∀ k, k < 4 → ∀ F ∈ σ.FS k, kB F.es := fun k hk F hF => srt_kB (h.f k (Or.inl hk) F hF).2
theorem Base.uq (h : Base t σ) : uqN (allE σ) := uqN_of h.u
theorem Base.len (h : Base t σ) : (allE σ).length ≤ σ.num := cntLen h.u (fun e he => ⟨(h.e e he).1.2.2.1, (h.e e he).2⟩)
theorem Base.lg (h : Base t σ) : ∀ k, k < 4 → ∀ F ∈ σ.FS k, (lk F.es).toInt ≤ (gk F.es).toInt := fun k hk F hF => by
  have hf := h.f k (Or.inl hk) F hF
  obtain ⟨e, he, -⟩ := lk_mem hf.1.2.1
  have := h.kb k hk F hF e he
  omega
theorem Base.srt (h : Base t σ) : ∀ k, k < 4 → lsrt σ k := fun k hk => by
  refine ⟨fun F hF => (h.f k (Or.inl hk) F hF).1.2.1, fun a b F G hab hF hG => ⟨fun h0 => ?_, fun h0 => ?_⟩⟩
  · subst h0; exact h.n.2.2.2.2 a b F G hab hF hG
  · have := h.l k (by omega) hk a b F G hab hF hG
    have := h.lg k hk F (List.mem_of_getElem? hF)
    omega
theorem Base.srE (h : Base t σ) : ∀ k, k < 4 → ∀ F ∈ σ.FS k, srtE F.es := fun k hk F hF => (h.f k (Or.inl hk) F hF).2
theorem allE_len : (allE σ).length = σ.log.length + (cE (fun _ => true) (σ.FS 0) + cE (fun _ => true) (σ.FS 1) + cE (fun _ => true) (σ.FS 2) + cE (fun _ => true) (σ.FS 3)) := by
  unfold allE
  rw [List.length_append, List.flatMap_append, List.flatMap_append, List.flatMap_append, List.length_append, List.length_append, List.length_append, cE_all, cE_all, cE_all, cE_all]
theorem allE_cnt (p : En → Bool) : (allE σ).countP p = σ.log.countP p + (cE p (σ.FS 0) + cE p (σ.FS 1) + cE p (σ.FS 2) + cE p (σ.FS 3)) := by
  unfold allE cE
  rw [List.countP_append, List.flatMap_append, List.flatMap_append, List.flatMap_append, List.countP_append, List.countP_append, List.countP_append]
/-- at most so many files in force -/
theorem Base.cnt4 (h : Base t σ) : (σ.FS 0).length + (σ.FS 1).length + (σ.FS 2).length + (σ.FS 3).length ≤ 234 := by
  have b0 := big8 (σ.FS 0)
  have b1 := big8 (σ.FS 1)
  have b2 := big8 (σ.FS 2)
  have b3 := big8 (σ.FS 3)
  have hl := h.len
  rw [allE_len, cE_all, cE_all, cE_all, cE_all] at hl
  have hs := h.s
  have ha := h.a
  unfold nSm at hs
  omega
theorem Base.mok (h : Base t σ) : mOK σ := by
  intro l i hl hne hi
  have hsub : ∀ F ∈ σ.msl l i, F ∈ σ.FS l := sl_sub
  constructor
  · unfold St.mtf St.mtt
    apply List.countP_mono_left
    intro F hF hp
    simp only [decide_eq_true_eq] at hp ⊢
    have hlk := h.lg (l + 1) (by omega) F hF
    -- the greatest of what goes up is no less than the least
    have key : (mlo (σ.msl l i)).toInt ≤ (mhi (σ.msl l i)).toInt ∨ σ.msl l i = [] := by
      cases hm : σ.msl l i with
      | nil => exact Or.inr rfl
      | cons G gs =>
        left
        have hG : G ∈ σ.FS l := hsub G (by rw [hm]; exact List.mem_cons_self)
        have hlg := h.lg l (by omega) G hG
        have mono1 : ∀ (gs : List FA) (m : Int32), (gs.foldl mnF m).toInt ≤ m.toInt := by
          intro gs
          induction gs with
          | nil => intro m; exact Int.le_refl _
          | cons F gs ih =>
            intro m
            have := ih (mnF m F)
            have h2 : (mnF m F).toInt ≤ m.toInt := by
              unfold mnF
              split
              · have := Int32.lt_iff_toInt_lt.mp ‹_›; omega
              · exact Int.le_refl _
            exact Int.le_trans this h2
        have mono2 : ∀ (gs : List FA) (m : Int32), m.toInt ≤ (gs.foldl mxF m).toInt := by
          intro gs
          induction gs with
          | nil => intro m; exact Int.le_refl _
          | cons F gs ih =>
            intro m
            have := ih (mxF m F)
            have h2 : m.toInt ≤ (mxF m F).toInt := by
              unfold mxF
              split
              · have := Int32.lt_iff_toInt_lt.mp ‹_›; omega
              · exact Int.le_refl _
            exact Int.le_trans h2 this
        have q1 := mono1 gs (mnF 1000 G)
        have q2 := mono2 gs (mxF (-1) G)
        have q3 : (mnF 1000 G).toInt ≤ (lk G.es).toInt := by
          unfold mnF
          split
          · exact Int.le_refl _
          · exact Int.not_lt.mp (fun z => ‹¬ _› (Int32.lt_iff_toInt_lt.mpr z))
        have q4 : (gk G.es).toInt ≤ (mxF (-1) G).toInt := by
          unfold mxF
          split
          · exact Int.le_refl _
          · exact Int.not_lt.mp (fun z => ‹¬ _› (Int32.lt_iff_toInt_lt.mpr z))
        show (gs.foldl mnF (mnF 1000 G)).toInt ≤ (gs.foldl mxF (mxF (-1) G)).toInt
        omega
    rcases key with key | key
    · omega
    · exfalso
      have hp0 : 0 < (σ.FS l).length := List.length_pos_iff.mpr hne
      have : (σ.msl l i).length ≠ 0 := by
        unfold St.msl slice mlf mlt
        rw [List.length_drop, List.length_take]
        by_cases h0 : l = 0
        · rw [if_pos h0, if_pos h0]; omega
        · have := hi h0
          rw [if_neg h0, if_neg h0]; omega
      rw [key] at this
      exact this rfl
  · have hl1 := (msrc_perm (σ.msl l i) (σ.mdn l i)).length_eq
    rw [List.length_append] at hl1
    have sub : ∀ (fs : List FA) (a b : Nat), ((slice fs a b).flatMap FA.es).length ≤ (fs.flatMap FA.es).length := fun fs a b => by
      unfold slice
      have e1 : (fs.flatMap FA.es).length = ((fs.take b).flatMap FA.es).length + ((fs.drop b).flatMap FA.es).length := by
        conv => lhs; rw [← List.take_append_drop b fs]
        rw [List.flatMap_append, List.length_append]
      have e2 : ((fs.take b).flatMap FA.es).length = (((fs.take b).take a).flatMap FA.es).length + (((fs.take b).drop a).flatMap FA.es).length := by
        conv => lhs; rw [← List.take_append_drop a (fs.take b)]
        rw [List.flatMap_append, List.length_append]
      omega
    have s1 := sub (σ.FS l) (mlf l i) (mlt l i (σ.FS l).length)
    have s2 := sub (σ.FS (l + 1)) (σ.mtf l i) (σ.mtt l i)
    have hb := h.len
    have ha := h.a
    rw [allE_len, cE_all, cE_all, cE_all, cE_all] at hb
    have e1 : ((σ.msl l i).flatMap FA.es).length ≤ ((σ.FS l).flatMap FA.es).length := s1
    have e2 : ((σ.mdn l i).flatMap FA.es).length ≤ ((σ.FS (l + 1)).flatMap FA.es).length := s2
    rcases (show l = 0 ∨ l = 1 ∨ l = 2 by omega) with rfl | rfl | rfl <;> (simp only [Nat.reduceAdd] at e2; omega)
end IV
