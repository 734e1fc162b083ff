/-! THE STATE THAT BOTH SIDES KEEP -/
def St : Type := (List En × Nat × Nat × (Nat → Int32)) × ((Nat → List FA) × (Nat → Int32) × Nat) × (Bool × Nat × (Nat × Nat × Nat × Nat) × List En × Nat × List En × (Nat → Int32))
def St.log (σ : St) : List En := σ.1.1
def St.syn (σ : St) : Nat := σ.1.2.1
def St.num (σ : St) : Nat := σ.1.2.2.1
def St.V (σ : St) : Nat → Int32 := σ.1.2.2.2
def St.FS (σ : St) : Nat → List FA := σ.2.1.1
def St.B (σ : St) : Nat → Int32 := σ.2.1.2.1
def St.nf (σ : St) : Nat := σ.2.1.2.2
def St.job (σ : St) : Bool := σ.2.2.1
def St.tgt (σ : St) : Nat := σ.2.2.2.1
def St.pos (σ : St) : Nat × Nat × Nat × Nat := σ.2.2.2.2.1
def St.lf (σ : St) : Nat := σ.2.2.2.2.1.1
def St.lt (σ : St) : Nat := σ.2.2.2.2.1.2.1
def St.tf (σ : St) : Nat := σ.2.2.2.2.1.2.2.1
def St.tt (σ : St) : Nat := σ.2.2.2.2.1.2.2.2
def St.src (σ : St) : List En := σ.2.2.2.2.2.1
def St.don (σ : St) : Nat := σ.2.2.2.2.2.2.1
def St.mak (σ : St) : List En := σ.2.2.2.2.2.2.2.1
def St.JV (σ : St) : Nat → Int32 := σ.2.2.2.2.2.2.2.2
def St.D (σ : St) (log : List En) (syn num : Nat) (V : Nat → Int32) : St := ((log, syn, num, V), σ.2)
def St.F (σ : St) (FS : Nat → List FA) (B : Nat → Int32) (nf : Nat) : St := (σ.1, (FS, B, nf), σ.2.2)
def St.J (σ : St) (don : Nat) (mak : List En) : St := (σ.1, σ.2.1, (σ.job, σ.tgt, σ.pos, σ.src, don, mak, σ.JV))
def St.beg (σ : St) (tgt lf lt tf tt : Nat) (src : List En) : St := (σ.1, σ.2.1, (true, tgt, (lf, lt, tf, tt), src, 0, [], σ.V))
def St.fin (σ : St) : St := (σ.1, σ.2.1, (false, σ.tgt, σ.pos, [], 0, [], σ.JV))
def lfn (es : List En) (k : Nat) : En := es.getD k (0, 0, 0)
def St.lo (σ : St) (k : Nat) : Prop := loK (lfn σ.src) σ.JV σ.src.length (σ.tgt = 3) k
/-- room for so many bytes -/
def Fit (FS : Nat → List FA) (len p : Nat) : Prop := p + len ≤ 1500 ∧ ∀ (k a : Nat) (F : FA), lvk k → (FS k)[a]? = some F → pl F + ln F ≤ p ∨ p + len ≤ pl F
theorem fit_iff {T : Nat → Int32} {FS : Nat → List FA} {len p : Nat} (hT : TK T FS) (hP : PLC FS) (hl : 1 ≤ len) : fits1 T len p ↔ Fit FS len p := by
  constructor
  · rintro ⟨h1, h2⟩
    refine ⟨h1, fun x a G hx hG => ?_⟩
    obtain ⟨-, -, g3, g4⟩ := hP.1 x a G hx hG
    by_cases c1 : pl G + ln G ≤ p
    · exact Or.inl c1
    by_cases c2 : p + len ≤ pl G
    · exact Or.inr c2
    exfalso
    by_cases c3 : p ≤ pl G
    · exact ((hT.2 (pl G) (by omega)).mpr ⟨x, a, G, hx, hG, by omega, by omega⟩) (h2 _ (by omega) (by omega))
    · exact ((hT.2 p (by omega)).mpr ⟨x, a, G, hx, hG, by omega, by omega⟩) (h2 _ (by omega) (by omega))
  · rintro ⟨h1, h2⟩
    refine ⟨h1, fun j ha hb => ?_⟩
    by_cases hz : T j = 0
    · exact hz
    · obtain ⟨k, a, F, hk, hF, h3, h4⟩ := (hT.2 j (by omega)).mp hz
      exfalso
      have := h2 k a F hk hF
      omega
def isRoom (FS : Nat → List FA) (len : Nat) (o : Option Nat) : Prop := (∃ p, o = some p ∧ Fit FS len p ∧ ∀ p', p' < p → ¬ Fit FS len p') ∨ (o = none ∧ ∀ p, ¬ Fit FS len p)
theorem isRoom.uniq {FS : Nat → List FA} {len : Nat} {o o' : Option Nat} (h : isRoom FS len o) (h' : isRoom FS len o') : o = o' := by
  rcases h with ⟨p, rfl, h1, h2⟩ | ⟨rfl, h1⟩
  · rcases h' with ⟨p', rfl, h1', h2'⟩ | ⟨rfl, h1'⟩
    · congr 1
      rcases Nat.lt_trichotomy p p' with h | h | h
      · exact absurd h1 (h2' p h)
      · exact h
      · exact absurd h1' (h2 p' h)
    · exact absurd h1 (h1' p)
  · rcases h' with ⟨p', rfl, h1', h2'⟩ | ⟨rfl, h1'⟩
    · exact absurd h1' (h1 p')
    · rfl
noncomputable def room (FS : Nat → List FA) (len : Nat) : Option Nat := Classical.epsilon (isRoom FS len)
theorem room_eq {FS : Nat → List FA} {len : Nat} {o : Option Nat} (h : isRoom FS len o) : room FS len = o := (Classical.epsilon_spec (p := isRoom FS len) ⟨o, h⟩).uniq h
/-! what the calls of a job do -/
noncomputable def St.endF (σ : St) : St × Bool := if σ.mak = [] then (σ, true) else
  match room σ.FS (enc σ.mak).length with
  | none => (σ.J σ.don [], false)
  | some p => ((σ.F (va_up σ.FS 5 (σ.FS 5 ++ [(nI σ.nf, nI p, nI (enc σ.mak).length, σ.mak)])) (lay21 σ.B p (enc σ.mak)) (σ.nf + 1)).J σ.don [], true)
noncomputable def St.doE (σ : St) : St × Bool := @ite _ (σ.lo σ.don) (Classical.propDecidable _) (σ.J (σ.don + 1) σ.mak, true)
  (if σ.tgt ≠ 0 ∧ 8 ≤ σ.mak.length ∧ (gk σ.mak).toInt ≠ (lfn σ.src σ.don).1.toInt then
    (if (σ.J (σ.don + 1) σ.mak).endF.2 then ((σ.J (σ.don + 1) σ.mak).endF.1.J (σ.don + 1) [lfn σ.src σ.don], true) else ((σ.J (σ.don + 1) σ.mak).endF.1, false))
  else (σ.J (σ.don + 1) (σ.mak ++ [lfn σ.src σ.don]), true))
noncomputable def St.works : Nat → St → St × Bool
  | 0, σ => (σ, true)
  | n + 1, σ => if σ.don < σ.src.length then (if σ.doE.2 then St.works n σ.doE.1 else (σ.doE.1, false)) else (σ, true)
def St.giveUp (σ : St) : St := (σ.F (va_up σ.FS 5 []) σ.B (σ.nf - (σ.FS 5).length)).fin
/-! how the program keeps it -/
def rwL (I : ab_II) (r a b c : Nat) (es : List En) : Prop := ∃ g, rw_I I r a b c es.length g ∧ rl es.length g = es
theorem rwL.keep {I I' : ab_II} {r a b c : Nat} {es : List En} (h : rwL I r a b c es) (h0 : I' r = I r) (h1 : I' a = I a) (h2 : I' b = I b) (h3 : I' c = I c) : rwL I' r a b c es := by
  obtain ⟨g, hg, hr⟩ := h
  exact ⟨g, ⟨by rw [h0]; exact hg.1, fun k => by rw [h1, h2, h3]; exact hg.2 k⟩, hr⟩
def rC3 (σ : St) (I : ab_II) : Prop := I 3 1 = nI σ.syn ∧ I 3 2 = nI σ.num ∧ I 3 9 = nI σ.nf
def rCJ (σ : St) (I : ab_II) : Prop := I 27 0 = (if σ.job then 1 else 0) ∧ I 27 9 = nI σ.don ∧ (σ.job = true → I 27 1 = nI σ.tgt - 1 ∧ (σ.tgt ≠ 0 → I 27 2 = nI σ.lf ∧ I 27 3 = nI σ.lt) ∧ I 27 4 = nI σ.tgt ∧ I 27 5 = nI σ.tf ∧ I 27 6 = nI σ.tt)
def RC (σ : St) (n : Nat) (S : ab_SH) (R : ab_RR) (I : ab_II) (A : AC) (P : Nat → List Nat) (sp : List FA) : Prop :=
  (Fx n S R ∧ LF n S R I A P (va_up σ.FS 4 sp) ∧ tot P ≤ 331) ∧ (rwL I 4 5 6 7 σ.log ∧ rC3 σ I ∧ I 8 = σ.V ∧ I 21 = σ.B ∧ TK (I 22) σ.FS) ∧ rCJ σ I ∧ rwL I 28 29 30 31 σ.src ∧ rwL I 33 34 35 36 σ.mak ∧ ∀ k, k < σ.src.length → bit (I 32 k) (σ.lo k)
