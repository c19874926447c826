/-! BALLOTS, BACK AND UNDONE -/
def Rm (M N : Mm) (x y w : Int) : Prop := N 1 10 = (M 1 10 + 1) % 20 ∧ N 1 11 = min (M 1 11 + 1) 20 ∧ N 246 (N 1 10).toNat = x ∧ N 247 (N 1 10).toNat = y ∧ N 248 (N 1 10).toNat = w ∧ ∀ k, k ≠ (N 1 10).toNat → N 246 k = M 246 k ∧ N 247 k = M 247 k ∧ N 248 k = M 248 k
theorem Rm.of {M M' N N' : Mm} {x y w : Int} (h : Rm M N x y w) (a1 : M' 1 = M 1) (a2 : M' 246 = M 246) (a3 : M' 247 = M 247) (a4 : M' 248 = M 248) (b1 : N' 1 = N 1) (b2 : N' 246 = N 246) (b3 : N' 247 = N 247) (b4 : N' 248 = N 248) : Rm M' N' x y w := by
  unfold Rm
  rw [a1, a2, a3, a4, b1, b2, b3, b4]
  exact h
theorem r5 {P : Mm} {c j : Nat} {v : Int} (h : c ≠ 5) : u2 P 5 j v c = P c := u2_row h
theorem r25 {P : Mm} {c j l : Nat} {x v : Int} (h2 : c ≠ 2) (h5 : c ≠ 5) : u2 (u2 P 2 l x) 5 j v c = P c := (u2_row h5).trans (u2_row h2)
theorem BX.cnt {N : Mm} {n K j : Nat} {x : Int} {C : Nat → Int} {G : Nat → Nat} {R : Nat → Nat → Nat} {A : Nat → Nat} (h : BX N n K C G R A) (hj : j < K) (h0 : 0 ≤ C j + x) (hs : sN C K + x ≤ 1000000) : BX (u2 N 5 j (C j + x)) n K (plC C j x) G R A := by
  obtain ⟨a, b, c, d, e, f⟩ := h
  refine ⟨by rw [u2_ne (Or.inl (by decide))]; exact a, b, by rw [u2_ne (Or.inl (by decide))]; exact c, d, fun k hk => ?_, by rw [plC_sum hj]; exact hs⟩
  obtain ⟨e1, e2, e3⟩ := e k hk
  refine ⟨e1.of (u2_ne (Or.inl (by decide))) (u2_ne (Or.inl (by decide))) (u2_row (by omega)), ?_, ?_⟩
  · unfold plC
    rw [u2_if]
    by_cases q : k = j
    · rw [if_pos ⟨rfl, q⟩, if_pos q, q]
    · rw [if_neg (fun z => q z.2), if_neg q]; exact e2
  · unfold plC
    by_cases q : k = j
    · rw [if_pos q, q]; exact h0
    · rw [if_neg q]; exact e3
theorem BX.sg {N : Mm} {n K : Nat} {x : Int} {C : Nat → Int} {G : Nat → Nat} {R : Nat → Nat → Nat} {A : Nat → Nat} (h : BX N n K C G R A) : BX (u2 N 2 1 x) n K C G R A := by
  obtain ⟨a, b, c, d, e, f⟩ := h
  refine ⟨by rw [u2_ne (Or.inr (by decide))]; exact a, b, by rw [u2_ne (Or.inr (by decide))]; exact c, d, fun k hk => ?_, f⟩
  obtain ⟨e1, e2, e3⟩ := e k hk
  exact ⟨e1.of (u2_ne (Or.inl (by decide))) (u2_ne (Or.inl (by decide))) (u2_row (by omega)), by rw [u2_ne (Or.inl (by decide))]; exact e2, e3⟩
theorem ballots_ok {E : Ev} {M : Mm} {n kk kw : Nat} {C : Nat → Int} {G : Nat → Nat} {R : Nat → Nat → Nat} {A : Nat → Nat} {o sp : Nat → Nat} {x1 : Int} (hL : Lay E) (h : BX M n kk C G R A) (hr : Ring M) (hW : WT n kw o sp) (hT : M 2 1 = ((2 * kw - 1 : Nat) : Int)) (hs : ∀ i, i < 2 * kw - 1 → M 3 i = (tx o sp i : Int)) (hx1 : 1 ≤ x1) (hx2 : x1 ≤ 100000) (hsum : sN C kk + x1 ≤ 1000000) (hkk : kk < 30) : Ok (f_B_ballots E M x1) (fun y => Off oBa M y.2 ∧ Ring y.2 ∧ (∀ k, k ≠ 10 → k ≠ 11 → y.2 1 k = M 1 k) ∧ y.2 2 1 = 0 ∧ ((∃ j : Nat, y.1 = (j : Int) ∧ j < kk ∧ G j = wc sp kw ∧ A j = apv o sp kw ∧ (∀ c, c < n → R j c = wRr o sp (wc sp kw) kw c) ∧ BX y.2 n kk (plC C j x1) G R A ∧ Rm M y.2 4 (j : Int) (C j)) ∨ (y.1 = (kk : Int) ∧ BX y.2 n (kk + 1) (nw kk x1 C) (nw kk (wc sp kw) G) (nw kk (wRr o sp (wc sp kw) kw) R) (nw kk (apv o sp kw) A) ∧ Rm M y.2 3 (kk : Int) 0))) := by
  unfold f_B_ballots
  rw [needRange_ok (by decide) hx1 hx2 (by decide)]
  refine ok_sb (ok_bm (readTrial_ok hL hW h.2.1 h.1 hT hs) ?_)
  rintro ⟨e, K⟩ ⟨er, k1r, k2r, k3r⟩
  have e1 : e = -1 := er
  have k1 : Off oTr M K := k1r
  have k2 : ∀ k, k ≠ 30 → K 6 k = M 6 k ∧ K 7 k = M 7 k := k2r
  have k3 : Rk K 30 n (wc sp kw) (wRr o sp (wc sp kw) kw) (apv o sp kw) := k3r
  subst e1
  have fk : FKs M K := ⟨k1.mono fun c hc => by unfold oTr at hc; unfold oFK; omega, k2⟩
  have hK := h.fk fk
  have q : ∀ i, ¬ oTr i → K i = M i := k1
  have q1 := q 1 (by unfold oTr; decide)
  have q246 := q 246 (by unfold oTr; decide)
  have q247 := q 247 (by unfold oTr; decide)
  have q248 := q 248 (by unfold oTr; decide)
  have o1 : Off oBa M K := k1.mono fun c hc => by unfold oTr at hc; unfold oBa; omega
  refine ok_ck (by decide) (ok_if (fun _ => ok_bm (kindOfTrial_ok hK k3) ?_) (fun z => absurd rfl z))
  rintro y (rfl | ⟨j, rfl, j1, j2, j3, j4⟩)
  · refine ok_ck (by decide) (ok_if (fun _ => ?_) (fun z => absurd rfl z))
    rw [hK.2.2.1, needRoom_ok (by omega) (by omega) (by decide)]
    refine ok_sb (ok_bm (keepTrial_ok hK k3 hkk) ?_)
    rintro ⟨r111, L⟩ ⟨l1r, l2r, l3r, l4r, l5r⟩
    have l1 : r111 = (kk : Int) := l1r
    have l2 : Off oKe K L := l2r
    have l3 : BX L n (kk + 1) (nw kk 0 C) (nw kk (wc sp kw) G) (nw kk (wRr o sp (wc sp kw) kw) R) (nw kk (apv o sp kw) A) := l3r
    have l5 : L 1 = K 1 := l5r
    subst l1
    refine ok_bm (remember_ok 3 (kk : Int) 0 ((hr.of q1).of l5)) ?_
    rintro P ⟨p1, p2, p3, p4, p5, p6, p7, p8, p9⟩
    have hP : BX P n (kk + 1) (nw kk 0 C) (nw kk (wc sp kw) G) (nw kk (wRr o sp (wc sp kw) kw) R) (nw kk (apv o sp kw) A) := l3.off p1 (by decide) (by decide) (by decide) (by decide) (fun k hk => by omega)
    have rm : Rm M P 3 (kk : Int) 0 := by
      refine Rm.of (M := L) (N := P) ⟨p4, p5, p6, p7, p8, p9⟩ ?_ ?_ ?_ ?_ rfl rfl rfl rfl
      · rw [l5, q1]
      · rw [l2 246 (by unfold oKe; decide), q246]
      · rw [l2 247 (by unfold oKe; decide), q247]
      · rw [l2 248 (by unfold oKe; decide), q248]
    unfold B_ballots_j109
    rw [Int.toNat_natCast]
    have e5 : P 5 kk = 0 := by
      have := (hP.2.2.2.2.1 kk (by omega)).2.1
      rw [nw_at] at this
      exact this
    refine ok_ck (inN (by omega) (by decide)) (ok_nbx fun v ev => ok_some ?_)
    rw [u2_ne (Or.inl (by decide)), e5] at ev
    have hb := (hP.sg (x := 0)).cnt (j := kk) (x := x1) (by omega) (by rw [nw_at]; omega) (by rw [nw_sum]; omega)
    rw [nw_at, ← ev] at hb
    have ec : plC (nw kk 0 C) kk x1 = nw kk x1 C := by
      funext i
      unfold plC nw
      by_cases e : i = kk
      · rw [if_pos e, if_pos e, if_pos e]; omega
      · rw [if_neg e, if_neg e, if_neg e]
    rw [ec] at hb
    refine ⟨((o1.trans (l2.mono fun c hc => by unfold oKe at hc; unfold oBa; omega)).trans (p1.mono fun c hc => by unfold oBa; omega)).u2 (by unfold oBa; decide) |>.u2 (by unfold oBa; decide), p2.of ?_, fun k h1 h2 => ?_, ?_, Or.inr ⟨rfl, hb, rm.of rfl rfl rfl rfl ?_ ?_ ?_ ?_⟩⟩
    · rfl
    · show u2 (u2 P 2 1 0) 5 kk v 1 k = _
      rw [u2_ne (Or.inl (by decide)), u2_ne (Or.inl (by decide)), p3 k h1 h2, l5, q1]
    · show u2 (u2 P 2 1 0) 5 kk v 2 1 = _
      rw [u2_ne (Or.inl (by decide)), u2_at]
    · rfl
    · rfl
    · rfl
    · rfl
  · refine ok_ck (rgN (by omega)) (ok_if (fun z => by omega) (fun _ => ?_))
    have cj := (h.2.2.2.2.1 j j1).2.2
    have cj2 := sN_term (f := C) (fun i hi => (h.2.2.2.2.1 i hi).2.2) j1
    rw [Int.toNat_natCast, (hK.2.2.2.2.1 j j1).2.1]
    refine ok_ck (inN (by omega) (by decide)) ?_
    rw [needRoom_ok (by omega) (by omega) (by decide)]
    refine ok_sb (ok_bm (remember_ok 4 (j : Int) (C j) (hr.of q1)) ?_)
    rintro P ⟨p1, p2, p3, p4, p5, p6, p7, p8, p9⟩
    have hP : BX P n kk C G R A := hK.off p1 (by decide) (by decide) (by decide) (by decide) (fun k hk => by omega)
    have rm : Rm M P 4 (j : Int) (C j) := Rm.of (M := K) (N := P) ⟨p4, p5, p6, p7, p8, p9⟩ q1.symm q246.symm q247.symm q248.symm rfl rfl rfl rfl
    unfold B_ballots_j109
    rw [Int.toNat_natCast]
    refine ok_ck (inN (by omega) (by decide)) (ok_nbx fun v ev => ok_some ?_)
    rw [u2_ne (Or.inl (by decide)), (hP.2.2.2.2.1 j j1).2.1] at ev
    have hb := (hP.sg (x := 0)).cnt (j := j) (x := x1) j1 (by omega) hsum
    rw [← ev] at hb
    refine ⟨(o1.trans (p1.mono fun c hc => by unfold oBa; omega)).u2 (by unfold oBa; decide) |>.u2 (by unfold oBa; decide), p2.of ?_, fun k h1 h2 => ?_, ?_, Or.inl ⟨j, rfl, j1, j2, j3, j4, hb, rm.of rfl rfl rfl rfl ?_ ?_ ?_ ?_⟩⟩
    · rfl
    · show u2 (u2 P 2 1 0) 5 j v 1 k = _
      rw [u2_ne (Or.inl (by decide)), u2_ne (Or.inl (by decide)), p3 k h1 h2, q1]
    · show u2 (u2 P 2 1 0) 5 j v 2 1 = _
      rw [u2_ne (Or.inl (by decide)), u2_at]
    · rfl
    · rfl
    · rfl
    · rfl
theorem takeBack_ok {E : Ev} {M : Mm} {n kk j : Nat} {C : Nat → Int} {G : Nat → Nat} {R : Nat → Nat → Nat} {A : Nat → Nat} (h : BX M n kk C G R A) (hr : Ring M) (hj : j < kk) (hc : 1 ≤ C j) : Ok (f_B_takeBack E M (j : Int) 1) (fun y => Off oBa M y.2 ∧ Ring y.2 ∧ (∀ k, k ≠ 10 → k ≠ 11 → y.2 1 k = M 1 k) ∧ y.2 2 = M 2 ∧ BX y.2 n kk (plC C j (-1)) G R A ∧ Rm M y.2 4 (j : Int) (C j)) := by
  have hkk := h.2.2.2.1
  have cj2 := sN_term (f := C) (fun i hi => (h.2.2.2.2.1 i hi).2.2) hj
  have hsum := h.2.2.2.2.2
  unfold f_B_takeBack
  rw [h.2.2.1, needIndex_ok (by omega) (by omega) (by omega), Int.toNat_natCast, (h.2.2.2.2.1 j hj).2.1]
  refine ok_sb (ok_ck (inN (by omega) (by decide)) ?_)
  rw [needRange_ok (by decide) (by decide) hc (by omega)]
  refine ok_sb (ok_bm (remember_ok 4 (j : Int) (C j) hr) ?_)
  rintro P ⟨p1, p2, p3, p4, p5, p6, p7, p8, p9⟩
  have hP : BX P n kk C G R A := h.off p1 (by decide) (by decide) (by decide) (by decide) (fun k hk => by omega)
  have hb := hP.cnt (j := j) (x := -1) hj (by omega) (by omega)
  have rm : Rm M P 4 (j : Int) (C j) := ⟨p4, p5, p6, p7, p8, p9⟩
  rw [(hP.2.2.2.2.1 j hj).2.1]
  refine ok_some ⟨(p1.mono fun c hc => by unfold oBa; omega).u2 (by unfold oBa; decide), p2.of rfl, fun k h1 h2 => ?_, ?_, hb, rm.of rfl rfl rfl rfl ?_ ?_ ?_ ?_⟩
  · show u2 P 5 j (C j - 1) 1 k = _
    rw [u2_ne (Or.inl (by decide)), p3 k h1 h2]
  · show u2 P 5 j (C j - 1) 2 = _
    rw [u2_row (by decide), p1 2 (by decide)]
  · rfl
  · rfl
  · rfl
  · rfl
/-- one change undone -/
theorem undo_ok {E : Ev} {M : Mm} {x y w : Int} (hr : Ring M) (h0 : M 1 11 ≠ 0) (hx : M 246 (M 1 10).toNat = x) (hy : M 247 (M 1 10).toNat = y) (hw : M 248 (M 1 10).toNat = w) (hc : (x = 3 ∧ rgI y) ∨ (x = 4 ∧ ∃ j : Nat, y = (j : Int) ∧ j < 31)) : Ok (f_B_undo E M) (fun r => Ring r.2 ∧ (∀ k, k ≠ 10 → k ≠ 11 → r.2 1 k = M 1 k) ∧ r.2 1 10 = (M 1 10 + 19) % 20 ∧ r.2 1 11 = M 1 11 - 1 ∧ (∀ c, c ≠ 1 → r.2 c = (if x = 3 then u2 M 2 3 y else u2 M 5 y.toNat w) c)) := by
  obtain ⟨r1, r2, r3, r4⟩ := hr
  unfold f_B_undo
  refine ok_ck ⟨by omega, by omega⟩ (ok_if (fun z => absurd z h0) (fun _ => ok_ck ⟨by omega, by omega, by omega⟩ ?_))
  rw [hx, hy, hw]
  refine ok_bm (R := fun N => N = if x = 3 then u2 M 2 3 y else u2 M 5 y.toNat w) ?_ ?_
  · unfold f_B_takeChangeBack
    rcases hc with ⟨rfl, hy⟩ | ⟨rfl, j, rfl, hj⟩
    · refine ok_ck (by decide) (ok_if (fun z => absurd z (by decide)) (fun _ => ok_if (fun z => absurd z (by decide)) (fun _ => ok_if (fun z => absurd z (by decide)) (fun _ => ok_if (fun _ => ok_some ?_) (fun z => absurd rfl z)))))
      rw [if_pos rfl]
    · refine ok_ck (by decide) (ok_if (fun z => absurd z (by decide)) (fun _ => ok_if (fun z => absurd z (by decide)) (fun _ => ok_if (fun z => absurd z (by decide)) (fun _ => ok_if (fun z => absurd z (by decide)) (fun _ => ok_if (fun _ => ok_ck (inN hj (by decide)) (ok_some ?_)) (fun z => absurd rfl z))))))
      rw [if_neg (by decide)]
  · rintro N rfl
    have e1 : (if x = 3 then u2 M 2 3 y else u2 M 5 y.toNat w) 1 = M 1 := by
      by_cases e : x = 3
      · rw [if_pos e, u2_row (by decide)]
      · rw [if_neg e, u2_row (by decide)]
    obtain ⟨Z, hZ⟩ : ∃ Z, Z = (if x = 3 then u2 M 2 3 y else u2 M 5 y.toNat w) := ⟨_, rfl⟩
    rw [← hZ] at e1 ⊢
    rw [e1]
    refine ok_ck ⟨by omega, by omega⟩ (ok_nbx fun K eK => ok_some ?_)
    rw [u2_ne (Or.inr (by decide)), e1] at eK
    have k10 : K 1 10 = (M 1 10 + 19) % 20 := by
      rw [eK, u2_ne (Or.inr (by decide)), u2_at]
      omega
    have k11 : K 1 11 = M 1 11 - 1 := by rw [eK, u2_at]
    refine ⟨⟨by show 0 ≤ K 1 10; omega, by show K 1 10 < 20; omega, by show 0 ≤ K 1 11; omega, by show K 1 11 ≤ 20; omega⟩, fun k h1 h2 => ?_, k10, k11, fun c hc => ?_⟩
    · show K 1 k = _
      rw [eK, u2_ne (Or.inr h2), u2_ne (Or.inr h1), e1]
    · show K c = _
      rw [eK, u2_row hc, u2_row hc]
theorem kindAt_ok {E : Ev} {M : Mm} {n kk k c : Nat} {C : Nat → Int} {G : Nat → Nat} {R : Nat → Nat → Nat} {A : Nat → Nat} (h : BX M n kk C G R A) (hk : k < kk) (hc : c < n) : Ok (f_B_kindAt E M (k : Int) (c : Int) 1) (fun r => r = (R k c : Int)) := by
  have hkk := h.2.2.2.1
  have hn := h.2.1
  unfold f_B_kindAt
  rw [h.2.2.1, h.1, needIndex_ok (by omega) (by omega) (by omega), needIndex_ok (by omega) (by omega) (by omega)]
  refine ok_sb (ok_sb (ok_ck (by decide) (ok_if (fun z => absurd z (by decide)) (fun _ => ok_bm (rankOf_ok (h.2.2.2.2.1 k hk).1 (by omega) hn hc) ?_))))
  rintro r rfl
  exact ok_some rfl
theorem winner_ok {E : Ev} {M : Mm} {n kk : Nat} {C : Nat → Int} {G : Nat → Nat} {R : Nat → Nat → Nat} {A : Nat → Nat} {lo : Nat → Int} {way : Int} (hL : Lay E) (h : BX M n kk C G R A) (hl : LT M n lo) (h1 : 1 ≤ n) (w0 : 0 ≤ way) (w4 : way ≤ 4) : Ok (f_B_winner E M way) (fun r => Off oP2 M r.2 ∧ ∃ b : Nat, r.1 = (b : Int) ∧ b < n ∧ BB (wB kk C) R G A lo n way b) := by
  unfold f_B_winner
  rw [needRange_ok (by decide) w0 w4 (by decide), everybody_eq h.1 h.2.1]
  refine ok_sb (ok_sb (ok_bm (open_pd hL h) ?_))
  rintro N ⟨o1, o2, -, -, o5⟩
  have hN := h.o2 o1
  have pb : PB N n (wB kk C) R G A lo := ⟨o2, hN.1, h.2.1, fun c hc => by rw [o1 4 (by unfold oP2; decide)]; exact hl c hc, (wB_nn h).1, (wB_nn h).2, fun k hk hw => by
    have : k < kk := by
      rcases Nat.lt_or_ge k kk with q | q
      · exact q
      · exact absurd (by unfold wB; rw [if_neg (by omega)]) hw
    exact (hN.2.2.2.2.1 k this).1⟩
  refine ok_bm (bestBy_ok hL pb h1 ⟨by omega, by omega⟩) ?_
  rintro ⟨b9, V⟩ ⟨⟨b, e9r, hb1, hb2⟩, v1r⟩
  exact ok_some ⟨o1.trans (Off.mono v1r fun c hc => by unfold oSc at hc; unfold oP2; omega), b, e9r, hb1, hb2⟩
theorem gain_ok {E : Ev} {M : Mm} {n kk : Nat} {C : Nat → Int} {G : Nat → Nat} {R : Nat → Nat → Nat} {A : Nat → Nat} {lo : Nat → Int} {way : Int} (hL : Lay E) (h : BX M n kk C G R A) (hl : LT M n lo) (hs9 : sN C kk ≤ 999999) (hn2 : 2 ≤ n) (hn : n ≤ 5) (w0 : 0 ≤ way) (w4 : way ≤ 4) : Ok (f_B_gain E M way) (fun r => FKs M r.2 ∧ ∃ b0, b0 < n ∧ BB (wB kk C) R G A lo n way b0 ∧ ((r.1 = -1 ∧ ∀ k, k < kk → noK kk C R G A lo n way b0 k) ∨ ∃ k o, r.1 = ((k : Nat) : Int) ∧ fkr kk C R G A lo n way b0 k o ∧ OH r.2 n o ∧ Pm o n)) := by
  unfold f_B_gain f_B_needFewCandidates
  rw [needRange_ok (by decide) w0 w4 (by decide), h.1, ck_i (rgN (by omega)), if_pos (by omega)]
  exact ok_sb (ok_sb (ok_bm (findKind_ok hL h hl hs9 hn2 hn ⟨by omega, by omega⟩) fun r hr => ok_some hr))
theorem gainAt_ok {E : Ev} {M : Mm} {n kk k b0 i : Nat} {C : Nat → Int} {G : Nat → Nat} {R : Nat → Nat → Nat} {A : Nat → Nat} {lo : Nat → Int} {way : Int} {o : Nat → Nat} (hL : Lay E) (h : BX M n kk C G R A) (hl : LT M n lo) (hs9 : sN C kk ≤ 999999) (hn2 : 2 ≤ n) (hn : n ≤ 5) (w0 : 0 ≤ way) (w4 : way ≤ 4) (hb : BB (wB kk C) R G A lo n way b0) (hf : fkr kk C R G A lo n way b0 k o) (hi : i < n) : Ok (f_B_gainAt E M way (i : Int)) (fun r => FKs M r.2 ∧ r.1 = (o i : Int)) := by
  unfold f_B_gainAt f_B_needFewCandidates
  rw [needRange_ok (by decide) w0 w4 (by decide), h.1, ck_i (rgN (by omega)), if_pos (by omega)]
  refine ok_sb (ok_sb (ok_bm (findKind_ok hL h hl hs9 hn2 hn ⟨by omega, by omega⟩) ?_))
  rintro ⟨x, N⟩ ⟨n1r, b1, hb1, hb2, hxr⟩
  have n1 : FKs M N := n1r
  have eb := BB_unique hb2 hb
  subst eb
  rcases hxr with ⟨-, hno⟩ | ⟨l, p, exr, hf2, hO, hP⟩
  · obtain ⟨f1, f2, ⟨j, j1, j2, j3⟩, f4, f5⟩ := hf
    exact absurd f4 (hno k f1 f2 j j1 o j2)
  · have ex : x = (l : Int) := exr
    obtain ⟨e1, e2⟩ := fkr_unique hf hf2
    subst ex e1 e2
    have hO : OH N n o := hO
    unfold B_gainAt_j34
    refine ok_ck (rgN (by have := hf.1; have := h.2.2.2.1; omega)) (ok_if (fun z => by omega) (fun _ => ?_))
    rw [(h.fk n1).1, needPlace_ok (by omega) (by omega) (by omega), Int.toNat_natCast]
    exact ok_sb (ok_ck (inN (by omega) (by decide)) (ok_some ⟨n1, hO i hi⟩))
