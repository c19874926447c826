/-! FIRST PILES -/
/-- all denominators and piles of a count are small enough, and denominators not 0 -/
def SZ (M : Mm) (p el ex : Nat) : Prop := ∀ s, s ≤ el + ex → 0 < MV M p s 9 ∧ MV M p s 9 < pB 11 ∧ ∀ c, c < 9 → MV M p s c < pB 11
theorem writePile_ok {n kk s : Nat} {x2 : Int} {cN : Nat} {C : Nat → Int} {R : Nat → Nat → Nat} {E : Ev} {M : Mm} {j p el ex : Nat} {q B : Int} {eo : Nat → Nat} (hL : Lay E) (h22 : M 2 2 = (n : Int)) (hn : n ≤ 5) (h : TCx n kk C R E M j p el ex q B eo) (hz : SZ M p el ex) (hs : s ≤ el + ex) (hx : (x2 = -1 ∧ cN = 8) ∨ (x2 = (cN : Int) ∧ cN < n)) : Ok (f_B_writePile E M (s : Int) x2) (fun r => Off oWr M r.2 ∧ (∀ k, k ≠ 13 → r.2 1 k = M 1 k) ∧ ∃ len g, r.1 = ((len : Nat) : Int) ∧ GC (MV M p s cN) (MV M p s 9) g ∧ OUT r.2 len (MV M p s cN / g) (MV M p s 9 / g)) := by
  have hlat := latest_eq h
  obtain ⟨a1, a2, a3, a4, a5, a6, a7, a8, a9, a10, a11, a12, a13, a14, a15, a16, a17, a18, -⟩ := h
  obtain ⟨z1, z2, z3⟩ := hz s hs
  have c9 : cN < 9 := by rcases hx with ⟨-, e⟩ | ⟨-, e⟩ <;> omega
  have j72 := j72_ok (c := cN) hL a4 a5 (show s ≤ 8 by omega) c9 (a18 s hs).1 z1 z2 (z3 cN c9)
  have j16 : Ok (B_writePile_j16 E M (s : Int) x2) (fun r => Off oWr M r.2 ∧ (∀ k, k ≠ 13 → r.2 1 k = M 1 k) ∧ ∃ len g, r.1 = ((len : Nat) : Int) ∧ GC (MV M p s cN) (MV M p s 9) g ∧ OUT r.2 len (MV M p s cN / g) (MV M p s 9 / g)) := by
    unfold B_writePile_j16
    rw [hlat]
    refine ok_sb ?_
    show Ok (ck (isCt E p) (ck (rgI (s : Int)) (if (s : Int) < 0 then none else ck (rgI ((M p 4) + (M p 5))) (if (s : Int) ≤ ((M p 4) + (M p 5)) then ck (rgI x2) (if x2 = (-1) then B_writePile_j72 E M 8 (s : Int) p else B_writePile_j72 E M x2 (s : Int) p) else none)))) _
    rw [a12, a14]
    refine ok_ck a4 (ok_ck (rgN (by omega)) (ok_if (fun w => by omega) (fun _ => ok_ck ⟨by omega, by omega⟩ (ok_if (fun _ => ?_) (fun w => by omega)))))
    rcases hx with ⟨rfl, rfl⟩ | ⟨rfl, e⟩
    · exact ok_ck (by decide) (ok_if (fun _ => j72) (fun w => absurd rfl w))
    · exact ok_ck (rgN (by omega)) (ok_if (fun w => by omega) (fun _ => j72))
  unfold f_B_writePile
  rcases hx with ⟨e1, -⟩ | ⟨e1, e2⟩
  · rw [e1] at j16 ⊢
    exact ok_ck (by decide) (ok_if (fun _ => j16) (fun w => absurd rfl w))
  · rw [e1] at j16 ⊢
    refine ok_ck (rgN (by omega)) (ok_if (fun w => by omega) (fun _ => ?_))
    rw [h22, needIndex_ok (by omega) (by omega) (by omega)]
    exact ok_sb j16
/-- the sum of the first piles of c, in parts of 840 -/
noncomputable def tN (R : Nat → Nat) (G n : Nat) : Int := sN (fun c => ind (lrk (R c) G = 0)) n
noncomputable def FP (kk : Nat) (C : Nat → Int) (G : Nat → Nat) (R : Nat → Nat → Nat) (n c : Nat) : Int := sN (fun k => C k * ind (lrk (R k c) (G k) = 0) * (840 / tN (R k) (G k) n)) kk
