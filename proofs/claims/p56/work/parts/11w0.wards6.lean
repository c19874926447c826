/-! VOTES IN DISTRICTS -/
theorem DV_next {n : Nat} : ∀ {l : List Nat} {s i : Nat}, DV n s l → i + 1 < l.length → l.getD i 0 + 1 ≤ l.getD (i + 1) 0
  | [], _, _, _, h => absurd h (Nat.not_lt_zero _)
  | [_], _, i, _, h => absurd h (by show ¬ i + 1 < 1; omega)
  | _ :: _ :: _, _, 0, h, _ => h.2.2.1
  | _ :: f :: l, _, i + 1, h, hl => DV_next (l := f :: l) (i := i) h.2.2 (by
    have hl : i + 1 + 1 < (f :: l).length + 1 := hl
    omega)
/-- where a district begins -/
def stt (p : List Nat) (i : Nat) : Nat := if i = 0 then 0 else p.getD (i - 1) 0 + 1
theorem stt_le {n : Nat} {p : List Nat} (h : DV n 0 p) {i : Nat} (hi : i < p.length) : stt p i ≤ p.getD i 0 := by
  unfold stt
  by_cases e : i = 0
  · rw [if_pos e]; exact Nat.zero_le _
  · rw [if_neg e]
    have := DV_next h (i := i - 1) (by omega)
    rw [show i - 1 + 1 = i by omega] at this
    exact this
theorem sN_seg {v : Nat → Int} {n a : Nat} {c : Int} (hv : ∀ k, k < n → 0 ≤ v k ∧ v k ≤ c) (hc : 0 ≤ c) : ∀ {m : Nat}, a ≤ m → m ≤ n → 0 ≤ sN v m - sN v a ∧ sN v m - sN v a ≤ (m : Int) * c
  | 0, h1, _ => by rw [show a = 0 by omega]; show 0 ≤ (0 : Int) - 0 ∧ (0 : Int) - 0 ≤ 0 * c; omega
  | m + 1, h1, h2 => by
    have e3 : ((m + 1 : Nat) : Int) * c = (m : Int) * c + c := by rw [show ((m + 1 : Nat) : Int) = (m : Int) + 1 by omega, Int.add_mul]; omega
    by_cases e : a = m + 1
    · subst e
      have h9 : (0 : Int) ≤ ((m + 1 : Nat) : Int) * c := Int.mul_nonneg (by omega) hc
      omega
    · have ih := sN_seg hv hc (show a ≤ m by omega) (by omega)
      have h3 := hv m (by omega)
      rw [sN_succ, e3]
      omega
/-- the votes of a party in a district -/
def vt (M : Mm) (p : List Nat) (x i : Nat) : Int := sN (M (222 + x)) (p.getD i 0 + 1) - sN (M (222 + x)) (stt p i)
def VM (M : Mm) (n : Nat) : Prop := ∀ x, x < 2 → ∀ k, k < n → 0 ≤ M (222 + x) k ∧ M (222 + x) k ≤ 1000
theorem vt_bounds {M : Mm} {n : Nat} {p : List Nat} (hV : VM M n) (hn1 : 1 ≤ n) (hn : n ≤ 16) (h : DV n 0 p) {x i : Nat} (hx : x < 2) (hi : i < p.length) : 0 ≤ vt M p x i ∧ vt M p x i ≤ 16000 := by
  have h1 := stt_le h hi
  have h2 := DV_getD h hn1 i
  have h3 := sN_seg (a := stt p i) (hV x hx) (by decide) (m := p.getD i 0 + 1) (by omega) (by omega)
  unfold vt
  omega
theorem votesIn_ok {E : Ev} {M : Mm} {n d i x : Nat} {p : List Nat} (hV : VM M n) (hn1 : 1 ≤ n) (hn : n ≤ 16) (h : DV n 0 p) (hl : p.length = d) (hi : i < d) (hx : x < 2) (hM : ∀ i, i < d → M 242 i = (p.getD i 0 : Int)) : f_Wa_votesIn E M (i : Int) (x : Int) = some (vt M p x i) := by
  have hd := DV_len h
  have hb := DV_getD h hn1 i
  have hs := stt_le h (i := i) (by omega)
  have key : Ok (l_Wa_votesIn_22 E (i : Int) (x : Int) FU M 0 (stt p i : Int)) (fun r => r.1 = 1 ∧ r.2.1 = vt M p x i) := by
    refine L_Wa_votesIn_22 E (i : Int) (x : Int) M (I := fun x3 x4 => ∃ k : Nat, x4 = (k : Int) ∧ stt p i ≤ k ∧ k ≤ p.getD i 0 + 1 ∧ x3 = sN (M (222 + x)) k - sN (M (222 + x)) (stt p i)) (μ := fun _ y => n - y.toNat) (Q := fun r => r.1 = 1 ∧ r.2.1 = vt M p x i) ?_ FU 0 (stt p i : Int) ⟨stt p i, rfl, Nat.le_refl _, by omega, by omega⟩ (by show n - _ < 5000; omega)
    rintro x3 x4 ⟨k, rfl, k1, k2, k3⟩
    unfold Wa_votesIn_22b
    rw [Int.toNat_natCast, Int.toNat_natCast, hM i hi, Int.toNat_natCast]
    refine ok_ck ⟨by omega, by omega, by omega⟩ (ok_ck ⟨by omega, by omega⟩ (ok_ck ⟨by omega, by omega⟩ (ok_if (fun c => ?_) (fun c => ?_))))
    · have e : k = p.getD i 0 + 1 := by omega
      rw [e] at k3
      exact ok_some (ok_out (by show (1 : Nat) ≠ 0; decide) ⟨rfl, k3⟩)
    · refine ok_ck ⟨by omega, by omega, by omega⟩ (ok_ck ⟨by omega, by omega, by omega⟩ (ok_nb (ok_some (ok_go rfl ⟨⟨k + 1, by show (k : Int) + 1 = _; omega, by omega, by omega, ?_⟩, by show n - ((k : Int) + 1).toNat < n - (k : Int).toNat; omega⟩))))
      show x3 + _ = _
      rw [sN_succ]; omega
  obtain ⟨⟨t, y, z⟩, e1, e2, e3⟩ := key
  have e2 : t = 1 := e2
  have e3 : y = vt M p x i := e3
  subst e2 e3
  unfold f_Wa_votesIn
  rw [ck_i ⟨by omega, by omega⟩]
  by_cases c : i = 0
  · subst c
    have e4 : ((stt p 0 : Nat) : Int) = 0 := rfl
    rw [e4] at e1
    rw [if_pos (show ((0 : Nat) : Int) = 0 from rfl), e1]
    show ck ((1 : Nat) = 1) _ = _
    rw [ck_i rfl]
  · rw [if_neg (by omega), ck_i ⟨by omega, by omega, by omega⟩, show ((i : Int) - 1).toNat = i - 1 by omega, hM (i - 1) (by omega)]
    have e4 : ((stt p i : Nat) : Int) = (p.getD (i - 1) 0 : Int) + 1 := by
      unfold stt
      rw [if_neg c]
      omega
    rw [e4] at e1
    rw [e1]
    show ck ((1 : Nat) = 1) _ = _
    rw [ck_i rfl]
theorem vt_off {M N : Mm} (h : Off dC M N) (p : List Nat) {x : Nat} (hx : x < 2) (i : Nat) : vt N p x i = vt M p x i := by
  unfold vt
  rw [h (222 + x) (fun q => by have := q.1; omega)]
theorem VM.off {M N : Mm} {n : Nat} (hV : VM M n) (h : Off dC M N) : VM N n := fun x hx k hk => by
  rw [h (222 + x) (fun q => by have := q.1; omega)]
  exact hV x hx k hk
/-- all that a division needs to be -/
def DW (M : Mm) (n d : Nat) (w : Nat → Int) : Prop := WS M n w ∧ VM M n ∧ 1 ≤ n ∧ n ≤ 16 ∧ 1 ≤ d ∧ d ≤ n ∧ ∀ k, 0 ≤ w k ∧ w k ≤ 100000
theorem DW.ws {M : Mm} {n d : Nat} {w : Nat → Int} (h : DW M n d w) : WS M n w := h.1
theorem DW.vm {M : Mm} {n d : Nat} {w : Nat → Int} (h : DW M n d w) : VM M n := h.2.1
theorem DW.n1 {M : Mm} {n d : Nat} {w : Nat → Int} (h : DW M n d w) : 1 ≤ n := h.2.2.1
theorem DW.n16 {M : Mm} {n d : Nat} {w : Nat → Int} (h : DW M n d w) : n ≤ 16 := h.2.2.2.1
theorem DW.d1 {M : Mm} {n d : Nat} {w : Nat → Int} (h : DW M n d w) : 1 ≤ d := h.2.2.2.2.1
theorem DW.dn {M : Mm} {n d : Nat} {w : Nat → Int} (h : DW M n d w) : d ≤ n := h.2.2.2.2.2.1
theorem DW.wr {M : Mm} {n d : Nat} {w : Nat → Int} (h : DW M n d w) : ∀ k, 0 ≤ w k ∧ w k ≤ 100000 := h.2.2.2.2.2.2
theorem DW.off {M N : Mm} {n d : Nat} {w : Nat → Int} (h : DW M n d w) (ho : Off dC M N) : DW N n d w := ⟨h.ws.off ho, h.vm.off ho, h.n1, h.n16, h.d1, h.dn, h.wr⟩
theorem DW.smb {M : Mm} {n d : Nat} {w : Nat → Int} (h : DW M n d w) : ∀ a b, a ≤ b → b < n → sm w a b ≤ 1600000 := fun a b _ hb => by
  have h1 := sN_bound h.wr a
  have h2 := sN_bound h.wr (b + 1)
  have h3 := h.n16
  unfold sm
  omega
theorem DW.best {M : Mm} {n d : Nat} {w : Nat → Int} (h : DW M n d w) {p : List Nat} (hp : PL w n (wT w n d 0) d 0 p) : DV n 0 p ∧ gr w 0 p ≤ wT w n d 0 ∧ p.length = d ∧ ∀ l, DV n 0 l → l.length = d → gr w 0 l ≤ wT w n d 0 → lx p l := by
  have d1 := h.d1
  have dn := h.dn
  obtain ⟨a1, l, a2, a3, a4⟩ := wT_at h.smb d 0 (by omega) (by omega)
  obtain ⟨b1, b2, b3⟩ := PL_best (fun k => (h.wr k).1) h.smb hp ⟨l, a2, a3, by omega⟩ ⟨(wT_range w n d 0).1, a1⟩
  exact ⟨b1, b2, PL_len hp, b3⟩
theorem DW.uniq {M : Mm} {n d : Nat} {w : Nat → Int} (h : DW M n d w) {p q : List Nat} (hp : PL w n (wT w n d 0) d 0 p) (hq : PL w n (wT w n d 0) d 0 q) : p = q := by
  obtain ⟨a1, a2, a3, a4⟩ := h.best hp
  obtain ⟨b1, b2, b3, b4⟩ := h.best hq
  exact lx_anti (by omega) (a4 q b1 b3 b2) (b4 p a1 a3 a2)
theorem greatestDistrict_ok {E : Ev} {M : Mm} {n d : Nat} {w : Nat → Int} (h : DW M n d w) : Ok (f_B_greatestDistrict E M (d : Int)) (fun r => r.1 = wT w n d 0 ∧ Off dC M r.2) := by
  have d1 := h.d1
  have dn := h.dn
  have n16 := h.n16
  unfold f_B_greatestDistrict
  rw [h.ws.1, needRange_ok (by omega) (by omega) (by omega) (by omega)]
  refine ok_sb (ok_bm (divide_ok h.ws n16 h.wr d1 dn) ?_)
  rintro ⟨a, N⟩ ⟨a1, a2, -⟩
  exact ok_some ⟨a1, a2⟩
theorem needPlace_ok {E : Ev} {M : Mm} {a b : Int} (h0 : 0 ≤ a) (h1 : a < b) (h2 : b ≤ 2147483647) : f_B_needPlace E M a b = some () := by
  unfold f_B_needPlace
  rw [ck_i ⟨by omega, by omega⟩, if_neg (by omega), ck_i ⟨by omega, by omega⟩, if_pos h1]
theorem districtEnd_ok {E : Ev} {M : Mm} {n d i : Nat} {w : Nat → Int} (h : DW M n d w) (hi : i < d) : Ok (f_B_districtEnd E M (d : Int) (i : Int)) (fun r => Off dC M r.2 ∧ ∃ p, PL w n (wT w n d 0) d 0 p ∧ r.1 = (p.getD i 0 : Int)) := by
  have d1 := h.d1
  have dn := h.dn
  have n16 := h.n16
  unfold f_B_districtEnd
  rw [h.ws.1, needRange_ok (by omega) (by omega) (by omega) (by omega), needPlace_ok (by omega) (by omega) (by omega)]
  refine ok_sb (ok_sb (ok_bm (divide_ok h.ws n16 h.wr d1 dn) ?_))
  rintro ⟨a, N⟩ ⟨a1, a2, p, a3, a4⟩
  have a4 : ∀ i, i < d → N 242 i = (p.getD i 0 : Int) := a4
  refine ok_ck ⟨by omega, by omega, by omega⟩ (ok_some ⟨a2, p, a3, ?_⟩)
  rw [Int.toNat_natCast]
  exact a4 i hi
theorem districtsWon_ok {E : Ev} {M : Mm} {n d x : Nat} {w : Nat → Int} (h : DW M n d w) (hx : x < 2) : Ok (f_B_districtsWon E M (d : Int) (x : Int)) (fun r => Off dC M r.2 ∧ ∃ p, PL w n (wT w n d 0) d 0 p ∧ r.1 = sN (fun i => if vt M p (1 - x) i < vt M p x i then 1 else 0) d) := by
  have d1 := h.d1
  have dn := h.dn
  have n16 := h.n16
  unfold f_B_districtsWon
  rw [h.ws.1, needRange_ok (by omega) (by omega) (by omega) (by omega), needRange_ok (by omega) (by omega) (by omega) (by omega)]
  refine ok_sb (ok_sb (ok_bm (divide_ok h.ws n16 h.wr d1 dn) ?_))
  rintro ⟨a, N⟩ ⟨-, a2, p, a3, a4⟩
  have a2 : Off dC M N := a2
  have a4 : ∀ i, i < d → N 242 i = (p.getD i 0 : Int) := a4
  obtain ⟨p1, -, p3, -⟩ := h.best a3
  have hN := h.off a2
  refine ok_bm (L_B_districtsWon_32 E (d : Int) (x : Int) (I := fun K x3 x4 => K = N ∧ ∃ i : Nat, x4 = (i : Int) ∧ i ≤ d ∧ x3 = sN (fun i => if vt M p (1 - x) i < vt M p x i then 1 else 0) i) (μ := fun _ _ y => d - y.toNat) (Q := fun r => r.1 = 1 ∧ r.2.1 = sN (fun i => if vt M p (1 - x) i < vt M p x i then 1 else 0) d ∧ r.2.2.2 = N) ?_ FU N 0 0 ⟨rfl, 0, rfl, Nat.zero_le _, rfl⟩ (by show d - _ < 5000; omega)) ?_
  · rintro K x3 x4 ⟨rfl, i, rfl, hi, hx3⟩
    unfold B_districtsWon_32b
    refine ok_ck ⟨by omega, by omega⟩ (ok_ck ⟨by omega, by omega⟩ (ok_if (fun c => ?_) (fun c => ?_)))
    · have e : i = d := by omega
      rw [e] at hx3
      exact ok_some (ok_out (by show (1 : Nat) ≠ 0; decide) ⟨rfl, hx3, rfl⟩)
    · have hid : i < d := by omega
      have v1 := vt_bounds h.vm h.n1 n16 p1 hx (i := i) (by omega)
      have v2 := vt_bounds h.vm h.n1 n16 p1 (show 1 - x < 2 by omega) (i := i) (by omega)
      rw [show (1 : Int) - (x : Int) = ((1 - x : Nat) : Int) by omega, votesIn_ok hN.vm h.n1 n16 p1 p3 hid hx a4, votesIn_ok hN.vm h.n1 n16 p1 p3 hid (show 1 - x < 2 by omega) a4, vt_off a2 p hx, vt_off a2 p (show 1 - x < 2 by omega)]
      refine ok_sb (ok_sb (ok_ck ⟨by omega, by omega⟩ (ok_ck ⟨by omega, by omega⟩ (ok_if (fun c => ?_) (fun c => ?_)))))
      · refine ok_some (ok_go rfl ⟨⟨rfl, i + 1, by show (i : Int) + 1 = _; omega, by omega, ?_⟩, by show d - ((i : Int) + 1).toNat < d - (i : Int).toNat; omega⟩)
        show x3 = _
        rw [sN_succ, ← hx3, if_neg (by omega)]; omega
      · refine ok_some (ok_go rfl ⟨⟨rfl, i + 1, by show (i : Int) + 1 = _; omega, by omega, ?_⟩, by show d - ((i : Int) + 1).toNat < d - (i : Int).toNat; omega⟩)
        show x3 + 1 = _
        rw [sN_succ, ← hx3, if_pos (by omega)]
  · rintro ⟨t, y, z, K⟩ ⟨g0, g1, g2⟩
    have g2 : K = N := g2
    subst g2
    exact ok_ck g0 (ok_some ⟨a2, p, a3, g1⟩)
theorem wasted_ok {E : Ev} {M : Mm} {n d x : Nat} {w : Nat → Int} (h : DW M n d w) (hx : x < 2) : Ok (f_B_wasted E M (d : Int) (x : Int)) (fun r => Off dC M r.2 ∧ 0 ≤ r.1 ∧ r.1 ≤ 1000000) := by
  have d1 := h.d1
  have dn := h.dn
  have n16 := h.n16
  unfold f_B_wasted
  rw [h.ws.1, needRange_ok (by omega) (by omega) (by omega) (by omega), needRange_ok (by omega) (by omega) (by omega) (by omega)]
  refine ok_sb (ok_sb (ok_bm (divide_ok h.ws n16 h.wr d1 dn) ?_))
  rintro ⟨a, N⟩ ⟨-, a2, p, a3, a4⟩
  have a2 : Off dC M N := a2
  have a4 : ∀ i, i < d → N 242 i = (p.getD i 0 : Int) := a4
  obtain ⟨p1, -, p3, -⟩ := h.best a3
  have hN := h.off a2
  refine ok_bm (L_B_wasted_32 E (d : Int) (x : Int) (I := fun K x3 x4 => K = N ∧ ∃ i : Nat, x4 = (i : Int) ∧ i ≤ d ∧ 0 ≤ x3 ∧ x3 ≤ (i : Int) * 16000) (μ := fun _ _ y => d - y.toNat) (Q := fun r => r.1 = 1 ∧ (0 ≤ r.2.1 ∧ r.2.1 ≤ 1000000) ∧ r.2.2.2 = N) ?_ FU N 0 0 ⟨rfl, 0, rfl, Nat.zero_le _, Int.le_refl 0, by decide⟩ (by show d - _ < 5000; omega)) ?_
  · rintro K x3 x4 ⟨rfl, i, rfl, hi, hx3, hx4⟩
    unfold B_wasted_32b
    refine ok_ck ⟨by omega, by omega⟩ (ok_ck ⟨by omega, by omega⟩ (ok_if (fun c => ?_) (fun c => ?_)))
    · exact ok_some (ok_out (by show (1 : Nat) ≠ 0; decide) ⟨rfl, ⟨hx3, by show x3 ≤ 1000000; omega⟩, rfl⟩)
    · have hid : i < d := by omega
      have v1 := vt_bounds h.vm h.n1 n16 p1 hx (i := i) (by omega)
      have v2 := vt_bounds h.vm h.n1 n16 p1 (show 1 - x < 2 by omega) (i := i) (by omega)
      rw [show (1 : Int) - (x : Int) = ((1 - x : Nat) : Int) by omega, votesIn_ok hN.vm h.n1 n16 p1 p3 hid hx a4, votesIn_ok hN.vm h.n1 n16 p1 p3 hid (show 1 - x < 2 by omega) a4, vt_off a2 p hx, vt_off a2 p (show 1 - x < 2 by omega)]
      refine ok_sb (ok_sb (ok_ck ⟨by omega, by omega⟩ (ok_ck ⟨by omega, by omega⟩ (ok_if (fun c => ?_) (fun c => ?_)))))
      · exact ok_some (ok_go rfl ⟨⟨rfl, i + 1, by show (i : Int) + 1 = _; omega, by omega, by show 0 ≤ x3 + vt M p x i; omega, by show x3 + vt M p x i ≤ _; omega⟩, by show d - ((i : Int) + 1).toNat < d - (i : Int).toNat; omega⟩)
      · refine ok_ck ⟨by omega, by omega⟩ (ok_nb (ok_some (ok_go rfl ⟨⟨rfl, i + 1, by show (i : Int) + 1 = _; omega, by omega, by show 0 ≤ x3 + (vt M p x i - (vt M p x i + vt M p (1 - x) i) / 2 - 1); omega, by show x3 + (vt M p x i - (vt M p x i + vt M p (1 - x) i) / 2 - 1) ≤ _; omega⟩, by show d - ((i : Int) + 1).toNat < d - (i : Int).toNat; omega⟩)))
  · rintro ⟨t, y, z, K⟩ ⟨g0, g1, g2⟩
    have g2 : K = N := g2
    subst g2
    exact ok_ck g0 (ok_some ⟨a2, g1⟩)
