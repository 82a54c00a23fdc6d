/-! the answers -/
theorem inW3 (x : Int32) : inW x 3 = inR x 4 := inW_R (n := 3) (by decide)
theorem inW15 (x : Int32) : inW x 15 = inR x 16 := inW_R (n := 15) (by decide)
theorem inW31 (x : Int32) : inW x 31 = inR x 32 := inW_R (n := 31) (by decide)
theorem inW4 (x : Int32) : inW x 4 = inR x 5 := inW_R (n := 4) (by decide)
theorem inW7 (x : Int32) : inW x 7 = inR x 8 := inW_R (n := 7) (by decide)
theorem two_in {x y : Int32} {a b : Nat} (ha : a < 2 ^ 31) (hb : b < 2 ^ 31) (h : (inR x (nI a) && inR y (nI b)) = true) : ∃ u v, u < a ∧ v < b ∧ x = nI u ∧ y = nI v := by
  rw [Bool.and_eq_true] at h
  obtain ⟨u, hu, e1⟩ := inR_of ha h.1
  obtain ⟨v, hv, e2⟩ := inR_of hb h.2
  exact ⟨u, v, hu, hv, e1, e2⟩
theorem st_eq {N : Nat} {S M : SX} (h : RA N S M) (x y : Int32) : xStV S x y = mStV M x y := by
  unfold xStV mStV
  rw [inW3, inW15]
  by_cases e : (inR x 4 && inR y 16) = true
  · obtain ⟨u, v, hu, hv, rfl, rfl⟩ := two_in (a := 4) (b := 16) (by decide) (by decide) e
    rw [if_pos e, if_pos e, nI_clamp (by omega), nI_clamp (by omega), h.1 u v hu hv]
  · rw [if_neg e, if_neg e]
theorem ca_eq {N : Nat} {S M : SX} (h : RA N S M) (x y : Int32) : xCaV S x y = mCaV M x y := by
  unfold xCaV mCaV
  rw [inW3, inW31]
  by_cases e : (inR x 4 && inR y 32) = true
  · obtain ⟨u, v, hu, hv, rfl, rfl⟩ := two_in (a := 4) (b := 32) (by decide) (by decide) e
    rw [if_pos e, if_pos e, nI_clamp (by omega), nI_clamp (by omega)]
    by_cases e2 : xHo S u (v / 2) = true
    · rw [if_pos e2, if_neg ((ra_held h hu (by omega)).mp e2), h.2.1 u v hu hv e2]
    · rw [if_neg e2, if_pos]
      rw [h.1 u (v / 2) hu (by omega), if_neg e2]
  · rw [if_neg e, if_neg e]
theorem me_eq {N : Nat} {S M : SX} (h : RA N S M) (x : Int32) : xMeV S x = mMeV M x := by
  unfold xMeV mMeV
  rw [inW31]
  by_cases e : inR x 32 = true
  · obtain ⟨u, hu, rfl⟩ := inR_of (n := 32) (by decide) e
    rw [if_pos e, if_pos e, nI_clamp (by omega), h.2.2.2.2.1 u hu]
  · rw [if_neg e, if_neg e]
theorem cn_eq {N : Nat} {S M : SX} (h : RA N S M) (x : Int32) : xCoV S x = mCoV M x := by
  unfold xCoV mCoV
  rw [inW4]
  by_cases e : inR x 5 = true
  · obtain ⟨u, hu, rfl⟩ := inR_of (n := 5) (by decide) e
    rw [if_pos e, if_pos e, nI_clamp (by omega), h.2.2.2.2.2.1 u hu]
  · rw [if_neg e, if_neg e]
theorem la_eq {N : Nat} {S M : SX} (h : RA N S M) (hN : N < 1000000) (x : Int32) : xLaV S x = mLaV M x := by
  unfold xLaV mLaV
  rw [inW7]
  obtain ⟨n, hn, t1, t2⟩ := h.2.2.2.2.2.2.1
  by_cases e : inR x 8 = true
  · obtain ⟨u, hu, rfl⟩ := inR_of (n := 8) (by decide) e
    rw [if_pos e, if_pos e, nI_clamp (by omega), t2 u hu, h.2.2.2.2.2.2.2.1.2.1, t1]
    by_cases e2 : u < n
    · rw [if_pos e2, if_neg (fun hx => by have := (nI_leI (by omega) (by omega)).mp hx; omega)]
    · rw [if_neg e2, if_pos (nI_le (by omega) (by omega))]
  · rw [if_neg e, if_neg e]
theorem bad_eq {x y : Int32} : (inW x 3 && inW y 31) = (inR x 4 && inR y 32) := by rw [inW3, inW31]
theorem bad_eq2 {x y : Int32} : (inW x 3 && inW y 15) = (inR x 4 && inR y 16) := by rw [inW3, inW15]
theorem mEm_4 (M : SX) (p b : Nat) : (mEm M p b).2 4 = M.2 4 := by
  unfold mEm mEmT
  split <;> rfl
theorem mEv_4 (p : Nat) : ∀ (n c : Nat) (M : SX), (mEvF p n c M).2 4 = M.2 4 := by
  intro n
  induction n with
  | zero => exact fun _ _ => rfl
  | succ n ih =>
    intro c M
    show (mEvF p n (c + 2) (mEv1 p c M)).2 4 = _
    rw [ih]
    unfold mEv1
    split
    · rfl
    · exact mEm_4 M p c
theorem mEo_4 (p b : Nat) : ∀ (n k : Nat) (M : SX), (mEoF p b n k M).2 = M.2 := by
  intro n
  induction n with
  | zero => exact fun _ _ => rfl
  | succ n ih =>
    intro k M
    show (mEoF p b n (k + 1) (if k = p then M else mSe M k b 0)).2 = _
    rw [ih]
    split <;> rfl
theorem mRl_4 (p b : Nat) : ∀ (n k : Nat) (M : SX), (mRlF p b n k M).2 = M.2 := by
  intro n
  induction n with
  | zero => exact fun _ _ => rfl
  | succ n ih =>
    intro k M
    show (mRlF p b n (k + 1) (mRl1 p b k M)).2 = _
    rw [ih]
    unfold mRl1
    split
    · rfl
    · split
      · rfl
      · split
        · rfl
        · split
          · rfl
          · split <;> rfl
theorem mUp_4 (p a : Nat) (w : Int32) : ∀ (n k : Nat) (M : SX), (mUpF p a w n k M).2 = M.2 := by
  intro n
  induction n with
  | zero => exact fun _ _ => rfl
  | succ n ih =>
    intro k M
    show (mUpF p a w n (k + 1) (mUp1 p a w k M)).2 = _
    rw [ih]
    unfold mUp1
    split
    · rfl
    · split <;> rfl
theorem mTr_4 (M : SX) (k p b : Nat) : (mTr M k p b).2 4 = M.2 4 := rfl
theorem mSe_2 (M : SX) (p b : Nat) (v : Int32) : (mSe M p b v).2 = M.2 := rfl
theorem mLoU_2 (T : SX) (p b : Nat) : (mLoU T p b).2 = T.2 := rfl
theorem mLoM_2 (f : Int32) (U : SX) (b : Nat) : (mLoM f U b).2 = U.2 := by
  unfold mLoM
  split <;> rfl
theorem mLo_4 (M : SX) (p b k : Nat) : (mLo M p b k).2 4 = M.2 4 := by
  have e1 : (mLoU (mLoT M p b k) p b).2 4 = M.2 4 := by rw [mLoU_2, mLoT, mTr_4, mEv_4]
  unfold mLo
  split
  · rw [mSe_2, mEo_4, e1]
  · unfold mLoE
    rw [mSe_2, mRl_4, mLoM_2, e1]
theorem mHi_4 (M : SX) (p b : Nat) : (mHi M p b).2 4 = M.2 4 := by
  unfold mHi
  split <;> rfl
theorem mRd_4 (M : SX) (p a : Nat) : (mRd M p a).2 4 = M.2 4 := by
  unfold mRd
  split
  · exact mHi_4 M p _
  · rw [mLo_4, mHi_4]
theorem mWrE_4 (V : SX) (p a : Nat) (w d : Int32) : (mWrE V p a w d).2 = V.2 := rfl
theorem mWr_4 (M : SX) (p a : Nat) (w : Int32) : (mWr M p a w).2 4 = M.2 4 := by
  have e1 : (mWrB M p a).2 4 = M.2 4 := by
    unfold mWrB
    split
    · exact mHi_4 M p _
    · rw [mLo_4, mHi_4]
  unfold mWr mWrT
  split
  · split
    · rw [mWrE_4, mUp_4, mTr_4, e1]
    · rw [mWrE_4, mEo_4, mTr_4, e1]
  · rw [mWrE_4, e1]
theorem ch_v {x : Int32} (h : inR x 4 = true) : ¬ x < 0 ∧ x < 4 ∧ x ≤ 3 ∧ (x = 0 ∨ x = 1 ∨ x = 2 ∨ x = 3) := by
  obtain ⟨u, hu, rfl⟩ := inR_of (n := 4) (by decide) h
  have : u = 0 ∨ u = 1 ∨ u = 2 ∨ u = 3 := by omega
  rcases this with rfl | rfl | rfl | rfl <;> decide
theorem ch_b {x : Int32} (h : ¬ inR x 4 = true) : (x < 0 ∨ ¬ x < 4) ∧ (x < 0 ∨ ¬ x ≤ 3) := by
  rcases pk_ix x (n := 4) (by decide) with h1 | h1 | ⟨u, hu, rfl⟩
  · exact ⟨Or.inl h1, Or.inl h1⟩
  · have h2 : (4 : Int32) ≤ x := h1
    refine ⟨Or.inr (fun hx => ?_), Or.inr (fun hx => ?_)⟩
    · rw [Int32.lt_iff_toInt_lt] at hx
      rw [Int32.le_iff_toInt_le] at h2
      omega
    · rw [Int32.le_iff_toInt_le] at hx h2
      have e3 : (3 : Int32).toInt = 3 := by decide
      have e4 : (4 : Int32).toInt = 4 := by decide
      omega
  · exact absurd (inR_t (n := 4) hu (by decide)) h
theorem rr_new : RR 0 (xSo ((fun _ _ => 0, fun _ => 0) : SX) 0) (zF ((fun _ _ => 0, fun _ => 0) : SX) 0 0) := by
  have nh : ∀ p b, ¬ xHo (xSo ((fun _ _ => 0, fun _ => 0) : SX) 0) p b = true := fun p b hx => (xHo_t.mp hx).1 rfl
  exact ⟨⟨fun p b _ _ => by rw [if_neg (nh p b)]; rfl, fun p a _ _ hx => absurd hx (nh p _), fun i hi => ⟨0, by omega, rfl, fun hx => absurd rfl hx⟩, fun i hi => Or.inl rfl, fun a ha => rfl, fun k hk => rfl, ⟨0, Nat.le_refl 0, rfl, fun k hk => rfl⟩, ⟨rfl, rfl, rfl, rfl⟩, Or.inl rfl⟩, fun _ p q b _ _ _ _ n1 => absurd rfl n1⟩
