/-! THE CALLS, AS THE DOCUMENT HAS THEM -/
abbrev isK (k : Int32) : Prop := 0 ≤ k.toInt ∧ k.toInt ≤ 999
abbrev isV (v : Int32) : Prop := 0 ≤ v.toInt ∧ v.toInt < 3
abbrev isLv (l : Int32) : Prop := 0 ≤ l.toInt ∧ l.toInt < 4
def St.write (σ : St) (k v : Int32) : Int32 × St := if 24 ≤ σ.log.length ∨ 60000 ≤ σ.num then (cFULL, σ) else (nI (σ.num + 1), σ.D (σ.log ++ [(k, nI (σ.num + 1), v)]) σ.syn (σ.num + 1) σ.V)
def St.put (σ : St) (k v : Int32) : Int32 × St := if isK k ∧ -100000 ≤ v.toInt ∧ v.toInt ≤ 100000 then σ.write k v else (cBAD, σ)
def St.drop (σ : St) (k : Int32) : Int32 × St := if isK k then σ.write k cNONE else (cBAD, σ)
def St.sync (σ : St) : Int32 × St := (nI (σ.log.length - σ.syn), σ.D σ.log σ.log.length σ.num σ.V)
def mx (a b : Int32) : Int32 := if a < b then b else a
/-- the greatest number that is left -/
def gnum (log : List En) (FS : Nat → List FA) : Int32 := mx (mx (mx (mx (gN 0 log) ((FS 0).foldl mxN 0)) ((FS 1).foldl mxN 0)) ((FS 2).foldl mxN 0)) ((FS 3).foldl mxN 0)
def noV (V : Nat → Int32) : Nat → Int32 := fun k => if k < 3 then -1 else V k
def St.cut2 (σ : St) (m : Nat) : St := (σ.D (σ.log.take m) σ.syn σ.num σ.V).giveUp
def St.crash (σ : St) (x : Int32) : Int32 × St := if 0 ≤ x.toInt ∧ x.toInt ≤ ((σ.log.length - σ.syn : Nat) : Int) then
    (nI (σ.syn + x.toInt.toNat), (σ.cut2 (σ.syn + x.toInt.toNat)).D (σ.log.take (σ.syn + x.toInt.toNat)) σ.syn (gnum (σ.log.take (σ.syn + x.toInt.toNat)) σ.FS).toInt.toNat (noV σ.V))
  else (cBAD, σ)
/-- all that can be read -/
def allE (σ : St) : List En := σ.log ++ ((σ.FS 0 ++ σ.FS 1 ++ σ.FS 2 ++ σ.FS 3).flatMap FA.es)
def isRead (l : List En) (k u : Int) (v : Int32) : Prop := (∃ e ∈ l, e.1.toInt = k ∧ e.2.1.toInt ≤ u ∧ 0 < e.2.1.toInt ∧ (∀ e' ∈ l, e'.1.toInt = k → e'.2.1.toInt ≤ u → e'.2.1.toInt ≤ e.2.1.toInt) ∧ v = e.2.2) ∨ ((∀ e ∈ l, e.1.toInt = k → e.2.1.toInt ≤ u → ¬ 0 < e.2.1.toInt) ∧ v = cNONE)
noncomputable def readV (l : List En) (k u : Int) : Int32 := Classical.epsilon (isRead l k u)
def isNext (l : List En) (k u : Int) (v : Int32) : Prop := (∃ j : Nat, k ≤ j ∧ j ≤ 999 ∧ readV l j u ≠ cNONE ∧ (∀ i : Nat, k ≤ i → i < j → readV l i u = cNONE) ∧ v = nI j) ∨ ((∀ i : Nat, k ≤ i → i ≤ 999 → readV l i u = cNONE) ∧ v = cNONE)
noncomputable def nextV (l : List En) (k u : Int) : Int32 := Classical.epsilon (isNext l k u)
theorem isNext.uniq {l : List En} {k u : Int} {v v' : Int32} (h : isNext l k u v) (h' : isNext l k u v') : v = v' := by
  rcases h with ⟨j, h1, h2, h3, h4, rfl⟩ | ⟨h1, rfl⟩
  · rcases h' with ⟨j', g1, g2, g3, g4, rfl⟩ | ⟨g1, rfl⟩
    · congr 1
      rcases Nat.lt_trichotomy j j' with z | z | z
      · exact absurd (g4 j h1 z) h3
      · exact z
      · exact absurd (h4 j' g1 z) g3
    · exact absurd (g1 j h1 h2) h3
  · rcases h' with ⟨j', g1, g2, g3, g4, rfl⟩ | ⟨g1, rfl⟩
    · exact absurd (h1 j' g1 g2) g3
    · rfl
theorem nextV_eq {l : List En} {k u : Int} {v : Int32} (h : isNext l k u v) : nextV l k u = v := (Classical.epsilon_spec (p := isNext l k u) ⟨v, h⟩).uniq h
abbrev St.held (σ : St) (v : Int32) : Prop := isV v ∧ σ.V v.toInt.toNat ≠ -1
noncomputable def St.get (σ : St) (k : Int32) : Int32 × St := if isK k then (readV (allE σ) k.toInt σ.num, σ) else (cBAD, σ)
noncomputable def St.view (σ : St) (v k : Int32) : Int32 × St := if σ.held v then (if isK k then (readV (allE σ) k.toInt (σ.V v.toInt.toNat).toInt, σ) else (cBAD, σ)) else (cUNK, σ)
noncomputable def St.next (σ : St) (v k : Int32) : Int32 × St := if v.toInt = -1 ∨ σ.held v then (if isK k then (nextV (allE σ) k.toInt (if v.toInt = -1 then (σ.num : Int) else (σ.V v.toInt.toNat).toInt), σ) else (cBAD, σ)) else (cUNK, σ)
def St.hold (σ : St) (v : Int32) : Int32 × St := if isV v then (if σ.V v.toInt.toNat ≠ -1 then (cSTATE, σ) else (nI σ.num, σ.D σ.log σ.syn σ.num (va_up σ.V v.toInt.toNat (nI σ.num)))) else (cUNK, σ)
def St.release (σ : St) (v : Int32) : Int32 × St := if σ.held v then (σ.V v.toInt.toNat, σ.D σ.log σ.syn σ.num (va_up σ.V v.toInt.toNat (-1))) else (cUNK, σ)
def fsrc (log : List En) : List En := log.foldl (fun l e => ins e l) []
def St.flush (σ : St) : Int32 × St := if σ.job = true ∨ σ.log = [] then (cSTATE, σ) else (nI σ.log.length, σ.beg 0 0 0 (σ.FS 0).length (σ.FS 0).length (fsrc σ.log))
/-- the files of a level that a merge takes, and those of the next -/
def mlf (l : Nat) (i : Nat) : Nat := if l = 0 then 0 else i
def mlt (l : Nat) (i len : Nat) : Nat := if l = 0 then len else i + 1
def slice (fs : List FA) (a b : Nat) : List FA := (fs.take b).drop a
def mlo (fs : List FA) : Int32 := fs.foldl mnF 1000
def mhi (fs : List FA) : Int32 := fs.foldl mxF (-1)
def msrc (up down : List FA) : List En := up.foldl mgF (down.foldl mgF [])
def St.msl (σ : St) (l i : Nat) : List FA := slice (σ.FS l) (mlf l i) (mlt l i (σ.FS l).length)
def St.mtf (σ : St) (l i : Nat) : Nat := (σ.FS (l + 1)).countP (eb (mlo (σ.msl l i)))
def St.mtt (σ : St) (l i : Nat) : Nat := (σ.FS (l + 1)).countP (bu (mhi (σ.msl l i)))
def St.mdn (σ : St) (l i : Nat) : List FA := slice (σ.FS (l + 1)) (σ.mtf l i) (σ.mtt l i)
def St.mergeB (σ : St) (l i : Nat) : St := σ.beg (l + 1) (mlf l i) (mlt l i (σ.FS l).length) (σ.mtf l i) (σ.mtt l i) (msrc (σ.msl l i) (σ.mdn l i))
def St.merge (σ : St) (l i : Int32) : Int32 × St := if 0 ≤ l.toInt ∧ l.toInt ≤ 2 then (if 0 < l.toInt ∧ ¬ (0 ≤ i.toInt ∧ i.toInt < ((σ.FS l.toInt.toNat).length : Int)) then (cUNK, σ) else if σ.job = true ∨ σ.FS l.toInt.toNat = [] then (cSTATE, σ) else (nI (msrc (σ.msl l.toInt.toNat i.toInt.toNat) (σ.mdn l.toInt.toNat i.toInt.toNat)).length, σ.mergeB l.toInt.toNat i.toInt.toNat)) else (cUNK, σ)
def cutF (l : List FA) (a b : Nat) (m : List FA) : List FA := l.take a ++ m ++ l.drop b
def St.insF (σ : St) : Nat → List FA := va_up (va_up (if σ.tgt = 0 then σ.FS else va_up σ.FS (σ.tgt - 1) (cutF (σ.FS (σ.tgt - 1)) σ.lf σ.lt [])) σ.tgt (cutF (σ.FS σ.tgt) σ.tf σ.tt (σ.FS 5))) 5 []
def St.insD (σ : St) : St := (σ.F σ.insF σ.B σ.nf).D (if σ.tgt = 0 then σ.log.drop σ.src.length else σ.log) (if σ.tgt = 0 then σ.syn - σ.src.length else σ.syn) σ.num σ.V
def St.install (σ : St) : Int32 × St := if σ.job = true ∧ σ.don = σ.src.length then (nI (σ.FS 5).length, σ.insD.fin) else (cSTATE, σ)
def St.stop (σ : St) : Int32 × St := if σ.job = true then (nI (σ.FS 5).length, σ.giveUp) else (cSTATE, σ)
def St.high (σ : St) : Int32 × St := if 3 < (σ.FS 0).length then (0, σ) else if 3 < (σ.FS 1).length then (1, σ) else if 6 < (σ.FS 2).length then (2, σ) else (cNONE, σ)
def St.files (σ : St) (l : Int32) : Int32 × St := if isLv l then (nI (σ.FS l.toInt.toNat).length, σ) else (cUNK, σ)
def St.fileO (σ : St) (l i : Int32) : Option FA := if isLv l ∧ 0 ≤ i.toInt then (σ.FS l.toInt.toNat)[i.toInt.toNat]? else none
def fileA (F : FA) (w : Int) : Int32 := if w = 0 then F.1 else if w = 1 then nI F.es.length else if w = 2 then lk F.es else if w = 3 then gk F.es else if w = 4 then F.2.1 else if w = 5 then F.2.2.1 else cBAD
def toldE (es : List En) (k w : Int32) : Int32 := if 0 ≤ k.toInt ∧ k.toInt < es.length then (if w.toInt = 0 then (lfn es k.toInt.toNat).1 else if w.toInt = 1 then (lfn es k.toInt.toNat).2.1 else if w.toInt = 2 then (lfn es k.toInt.toNat).2.2 else cBAD) else cBAD
def St.file (σ : St) (l i w : Int32) : Int32 × St := match σ.fileO l i with
  | none => (cUNK, σ)
  | some F => (fileA F w.toInt, σ)
def St.entry (σ : St) (l i k w : Int32) : Int32 × St := match σ.fileO l i with
  | none => (cUNK, σ)
  | some F => (toldE F.es k w, σ)
def St.byteAt (σ : St) (i : Int32) : Int32 × St := if 0 ≤ i.toInt ∧ i.toInt < 1500 then (σ.B i.toInt.toNat, σ) else (cBAD, σ)
def St.logA (σ : St) (k w : Int32) : Int32 × St := (toldE σ.log k w, σ)
def nBy (FS : Nat → List FA) : Int32 := (FS 0).foldl smB 0 + (FS 1).foldl smB 0 + (FS 2).foldl smB 0 + (FS 3).foldl smB 0
def nEn (FS : Nat → List FA) : Int32 := (FS 0).foldl smE 0 + (FS 1).foldl smE 0 + (FS 2).foldl smE 0 + (FS 3).foldl smE 0
def St.count (σ : St) (w : Int32) : Int32 × St := (if w.toInt = 0 then nI σ.log.length else if w.toInt = 1 then nI σ.syn else if w.toInt = 2 then nI σ.num else if w.toInt = 3 then nI ((σ.FS 0).length + (σ.FS 1).length + (σ.FS 2).length + (σ.FS 3).length) else if w.toInt = 4 then nBy σ.FS else if w.toInt = 5 then (if σ.job = true then nI (σ.src.length - σ.don) else cNONE) else if w.toInt = 6 then nI (σ.FS 5).length else if w.toInt = 7 then nI σ.nf else if w.toInt = 8 then nEn σ.FS else cBAD, σ)
def St.check (σ : St) : Int32 × St := (0, σ)
