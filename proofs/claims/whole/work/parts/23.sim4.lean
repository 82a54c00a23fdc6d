/-! whole calls -/
def RR (N : Nat) (S M : SX) : Prop := RA N S M ∧ Co M
theorem rr_mono {N N' : Nat} {S M : SX} (h : RR N S M) (hN : N ≤ N') : RR N' S M := ⟨ra_mono h.1 hN, h.2⟩
theorem co_fin {M M4 : SX} (hc : Co M) (h2 : M4.2 0 = M.2 0) {p b : Nat} {v : Int32}
    (hcb : ∀ q c, q < 4 → c < 16 → c ≠ b → M4.1 0 (16 * q + c) = 0 ∨ M4.1 0 (16 * q + c) = M.1 0 (16 * q + c))
    (hx : (M.2 0 = 0 ∨ M.2 0 = 1) → (∀ q, q < 4 → q ≠ p → M4.1 0 (16 * q + b) = 0) ∨ (v = 1 ∧ ∀ q, q < 4 → q ≠ p → M4.1 0 (16 * q + b) = 0 ∨ M4.1 0 (16 * q + b) = 1)) (hb : b < 16) : Co (mSe M4 p b v) := by
  intro hpr r q c hr hq hcc hne n1 n2
  have gm : (mSe M4 p b v).1 0 = upd (M4.1 0) (16 * p + b) v := rfl
  have hpr' : M.2 0 = 0 ∨ M.2 0 = 1 := by
    rw [← h2]
    exact hpr
  rw [gm] at n1 n2 ⊢
  by_cases e : c = b
  · subst e
    rcases hx hpr' with g | ⟨g1, g⟩
    · by_cases e2 : r = p
      · have e3 : q ≠ p := fun z => hne (e2.trans z.symm)
        rw [pk_un (by omega)] at n2
        exact absurd (g q hq e3) n2
      · rw [pk_un (by omega)] at n1
        exact absurd (g r hr e2) n1
    · by_cases e2 : r = p
      · rw [e2, pk_us]
        exact g1
      · rw [pk_un (by omega)] at n1 ⊢
        exact (g r hr e2).resolve_left n1
  · rw [pk_un (by omega)] at n1 n2 ⊢
    have e1 := (hcb r c hr hcc e).resolve_left n1
    have e2 := (hcb q c hq hcc e).resolve_left n2
    rw [e1] at n1 ⊢
    rw [e2] at n2
    exact hc hpr' r q c hr hq hcc hne n1 n2
theorem mDhF_c {M M' : SX} (h : M'.1 0 = M.1 0) (b : Nat) : ∀ n k : Nat, mDhF M' b n k = mDhF M b n k := by
  intro n
  induction n with
  | zero => exact fun _ => rfl
  | succ n ih =>
    intro k
    unfold mDhF
    rw [h, ih]
theorem xDrF_2 {p b : Nat} : ∀ (n k : Nat) (S : SX), (xDrF p b n k S).2 = S.2 := by
  intro n
  induction n with
  | zero => exact fun _ _ => rfl
  | succ n ih =>
    intro k S
    show (xDrF p b n (k + 1) (xDr1 p b k S)).2 = _
    rw [ih]
    unfold xDr1
    split <;> rfl
theorem rr_lo2 {N : Nat} {S M T U : SX} {p b k : Nat} (hp : p < 4) (hb : b < 16) (hTe : xLoT S p b k = T) (hUe : mLoU (mLoT M p b k) p b = U) (h3 : RA (N + 2) T U) (hw : ∀ j, j < 2 → U.1 1 (32 * p + (2 * b + j)) = T.1 2 (2 * (2 * p + b % 2) + j)) (heT : T.1 0 (2 * p + b % 2) = 0) (hcU : Co U) (hfz : mDhF U b 4 0 = mDhF (mLoT M p b k) b 4 0) :
    RR (N + 2) (xLo S p b k) (mLo M p b k) ∧ xHo (xLo S p b k) p b = true := by
  by_cases e : k = 1
  · obtain ⟨a1, a2, a2', a3, a4, a5, a6, a7, a8, a9⟩ := ra_dr (p := p) hb 4 0 T U (by omega) h3
    have f := ra_fin a1 hp hb (by rw [a4]; exact heT) (fun j hj => by rw [a3, a2]; exact hw j hj) (v := 4) (Or.inr (Or.inr (Or.inr (Or.inr rfl)))) (by decide)
    have ex : xLo S p b k = xLoE (xDrF p b 4 0 T, 4) (2 * p + b % 2) b := by
      unfold xLo xLoR
      rw [if_pos e, hTe]
    have em : mLo M p b k = mSe (mEoF p b 4 0 U) p b 4 := by
      unfold mLo
      rw [if_pos e, hUe]
    rw [ex, em]
    exact ⟨⟨f.1, co_fin hcU (by rw [a6]) (fun q c _ _ _ => a8.2 _) (fun _ => Or.inl (fun q hq hne => a7 q (by omega) (by omega) hne)) hb⟩, f.2⟩
  · obtain ⟨⟨c1, c2, c3, c4, c5, c6, c7, c8, c10⟩, a2⟩ := ra_sh h3 hcU hp hb heT
    rw [hfz] at c1 c3 c6 c7 c8 c10 a2
    have hfl := sh_flag (p := p) (b := b) 4 0 T true
    rw [Bool.true_and] at hfl
    have hot := ot_flag h3 (p := p) hb 4 0 0 (by omega)
    have hod : decide (mOtF U p b 4 0 0 = 0) = hN T p b 4 0 := by
      by_cases e2 : hN T p b 4 0 = true
      · rw [e2, decide_eq_true_eq]
        exact hot.mpr ⟨rfl, e2⟩
      · rw [Bool.eq_false_iff.mpr e2, decide_eq_false_iff_not]
        exact fun hx => e2 (hot.mp hx).2
    have s0 := h3.2.2.2.2.2.2.2.1.1
    have r9 := h3.2.2.2.2.2.2.2.2
    have hpz : decide (¬ U.2 0 ≤ 0) = decide (¬ T.2 0 = 0) := by
      rw [s0]
      exact decide_eq_decide.mpr (pr_lt r9).2.2.1
    generalize hv : (if (hN T p b 4 0 && decide (¬ T.2 0 = 0)) = true then (2 : Int32) else 1) = v
    have ex : xLo S p b k = xLoE ((xShF p b 4 0 (T, true)).1, v) (2 * p + b % 2) b := by
      unfold xLo xLoR
      rw [if_neg e, hTe]
      unfold xSh
      rw [hfl, c5, hv]
    have em : mLo M p b k = mSe (mRlF p b 4 0 (mLoM (mDhF (mLoT M p b k) b 4 0) U b)) p b v := by
      unfold mLo
      rw [if_neg e, hUe]
      unfold mLoE
      rw [hod, c6, hpz, Bool.and_comm, hv]
    have hv5 : st5 v ∧ ¬ v = 0 ∧ (v = 1 ∨ hN T p b 4 0 = true) := by
      by_cases e2 : (hN T p b 4 0 && decide (¬ T.2 0 = 0)) = true
      · rw [if_pos e2] at hv
        rw [← hv]
        rw [Bool.and_eq_true] at e2
        exact ⟨Or.inr (Or.inr (Or.inl rfl)), by decide, Or.inr e2.1⟩
      · rw [if_neg e2] at hv
        rw [← hv]
        exact ⟨Or.inr (Or.inl rfl), by decide, Or.inl rfl⟩
    have f := ra_fin c1 hp hb (by rw [c4]; exact heT) (fun j hj => by rw [c3, c2]; exact hw j hj) hv5.1 hv5.2.1
    rw [ex, em]
    refine ⟨⟨f.1, co_fin hcU (by rw [c6]) (fun q c hq hcc hne => Or.inr (c7 q c hq hcc hne)) (fun hpr => ?_) hb⟩, f.2⟩
    rcases hv5.2.2 with e3 | e3
    · refine Or.inr ⟨e3, fun q hq hne => a2 ?_ q hq hne⟩
      rw [← s0]
      exact (pr_lt (by rw [s0]; exact r9)).1.mpr hpr
    · refine Or.inl (fun q hq hne => (c8 q hq).mpr ?_)
      have := hN_f 4 0 e3 q (by omega) (by omega) hne
      rw [h3.1 q b hq hb, this]
      rfl
theorem mTr_0 (M : SX) (k p b : Nat) : (mTr M k p b).1 0 = M.1 0 := rfl
theorem mTr_s (M : SX) (k p b : Nat) : (mTr M k p b).2 0 = M.2 0 := rfl
/-- a miss -/
theorem rr_lo {N : Nat} {S M : SX} (h : RR N S M) {p b k : Nat} (hp : p < 4) (hb : b < 16) (hk : k < 2) : RR (N + 2) (xLo S p b k) (mLo M p b k) ∧ xHo (xLo S p b k) p b = true := by
  obtain ⟨h0, hc0⟩ := h
  have h1 : RA (N + 1) (xEm S (2 * p + b % 2)) (mEvF p 8 (b % 2) M) := ra_ev h0 hp (by omega)
  have he1 : (xEm S (2 * p + b % 2)).1 0 (2 * p + b % 2) = 0 := by
    show upd ((xEmT S (2 * p + b % 2)).1 0) (2 * p + b % 2) 0 (2 * p + b % 2) = 0
    rw [pk_us]
  have h2 : RA (N + 2) (xTr (xEm S (2 * p + b % 2)) k p b) (mLoT M p b k) := ra_tr h1 (by omega)
  obtain ⟨h3, hw, e0, em0, em2⟩ := ra_fe h2 hp hb (show (xTr (xEm S (2 * p + b % 2)) k p b).1 0 (2 * p + b % 2) = 0 from he1)
  have hU : mCw p b (mDhF (mLoT M p b k) b 4 0) (mLoT M p b k) = mLoU (mLoT M p b k) p b := rfl
  have hT : xFe (xTr (xEm S (2 * p + b % 2)) k p b) (2 * p + b % 2) b = xLoT S p b k := rfl
  rw [hU] at h3 hw em0 em2
  rw [hT] at h3 hw e0
  have heT : (xLoT S p b k).1 0 (2 * p + b % 2) = 0 := by
    rw [e0]
    exact he1
  have hsub : Sub M (mLoU (mLoT M p b k) p b) := ⟨by rw [em2, mLoT, mTr_s]; exact (sub_ev p 8 (b % 2) M).1, fun j => by rw [em0, mLoT, mTr_0]; exact (sub_ev p 8 (b % 2) M).2 j⟩
  have hcU : Co (mLoU (mLoT M p b k) p b) := hsub.co hc0
  have hfz : mDhF (mLoU (mLoT M p b k) p b) b 4 0 = mDhF (mLoT M p b k) b 4 0 := mDhF_c em0 b 4 0
  exact rr_lo2 hp hb rfl rfl h3 hw heT hcU hfz
theorem ra_z2 {N : Nat} {S M : SX} (h : RA N S M) : RA N (zF S 2 (S.2 2 + 1)) (zF M 2 (M.2 2 + 1)) := by
  obtain ⟨r1, r2, r3, r4, r5, r6, r7, ⟨s0, s1, s2, s3⟩, r9⟩ := h
  exact ⟨r1, r2, r3, r4, r5, r6, r7, ⟨s0, s1, by show M.2 2 + 1 = S.2 2 + 1; rw [s2], s3⟩, r9⟩
theorem ra_z3 {N : Nat} {S M : SX} (h : RA N S M) : RA N (zF S 3 (S.2 3 + 1)) (zF M 3 (M.2 3 + 1)) := by
  obtain ⟨r1, r2, r3, r4, r5, r6, r7, ⟨s0, s1, s2, s3⟩, r9⟩ := h
  exact ⟨r1, r2, r3, r4, r5, r6, r7, ⟨s0, s1, s2, by show M.2 3 + 1 = S.2 3 + 1; rw [s3]⟩, r9⟩
theorem rr_th {N : Nat} {S M : SX} (h : RR N S M) (v : Int32) : RR N S (zF M 4 v) := h
theorem ho_eq {N : Nat} {S M : SX} (h : RA N S M) {p b : Nat} (hp : p < 4) (hb : b < 16) : mHo M p b = xHo S p b := by
  unfold mHo
  by_cases e : xHo S p b = true
  · rw [e, decide_eq_true_eq]
    exact fun hx => (ra_held h hp hb).mp e ((st5_le (ra_st h hp hb)).mp hx)
  · rw [Bool.eq_false_iff.mpr e, decide_eq_false_iff_not]
    refine fun hx => hx ((st5_le (ra_st h hp hb)).mpr ?_)
    exact Classical.byContradiction fun hy => e ((ra_held h hp hb).mpr hy)
/-- the block is brought in -/
theorem rr_br {N : Nat} {S M : SX} (h : RR N S M) {p b k : Nat} (hp : p < 4) (hb : b < 16) (hk : k < 2) :
    RR (N + 2) (xBr S p b k) (if mHo M p b = true then mHi M p b else mLo (mHi M p b) p b k) ∧ xHo (xBr S p b k) p b = true := by
  rw [ho_eq h.1 hp hb]
  unfold xBr mHi
  rw [ho_eq h.1 hp hb]
  by_cases e : xHo S p b = true
  · rw [if_pos e, if_pos e, if_pos e]
    exact ⟨⟨ra_mono (ra_z2 h.1) (by omega), h.2⟩, e⟩
  · rw [if_neg e, if_neg e, if_neg e]
    exact rr_lo (N := N) (S := zF S 3 (S.2 3 + 1)) (M := zF M 3 (M.2 3 + 1)) ⟨ra_z3 h.1, h.2⟩ hp hb hk
theorem rr_rd {N : Nat} {S M : SX} (h : RR N S M) {p a : Nat} (hp : p < 4) (ha : a < 32) :
    RR (N + 2) (xBr S p (a / 2) 0) (mRd M p a) ∧ (mRd M p a).1 1 (32 * p + a) = (xBr S p (a / 2) 0).1 2 (2 * (2 * p + a / 2 % 2) + a % 2) := by
  have g := rr_br h hp (show a / 2 < 16 by omega) (show 0 < 2 by omega)
  exact ⟨g.1, g.1.1.2.1 p a hp ha g.2⟩
theorem xLo_s (S : SX) (p b k : Nat) : (xLo S p b k).2 0 = S.2 0 := by
  have e1 : ∀ i, (xEm S i).2 0 = S.2 0 := fun i => by
    unfold xEm xEmT
    split <;> rfl
  have e2 : (xLoT S p b k).2 0 = S.2 0 := by
    rw [← e1 (2 * p + b % 2)]
    unfold xLoT xFe
    split <;> rfl
  have e3 : ∀ (n k : Nat) (T : SX) (al : Bool), (xShF p b n k (T, al)).1.2 = T.2 := by
    intro n
    induction n with
    | zero => exact fun _ _ _ => rfl
    | succ n ih =>
      intro k T al
      show (xShF p b n (k + 1) (xSh1 p b k (T, al))).1.2 = _
      unfold xSh1
      split
      · rw [ih, xYi_s]
      · rw [ih]
  unfold xLo xLoR
  split
  · show (xDrF p b 4 0 (xLoT S p b k)).2 0 = _
    rw [xDrF_2, e2]
  · show (xShF p b 4 0 (xLoT S p b k, true)).1.2 0 = _
    rw [e3, e2]
theorem xBr_s (S : SX) (p b k : Nat) : (xBr S p b k).2 0 = S.2 0 := by
  unfold xBr
  split
  · rfl
  · rw [xLo_s]
    rfl
/-- the writer's line becomes the only one -/
theorem rr_cl {N : Nat} {S M : SX} (h : RR N S M) {p b : Nat} (hp : p < 4) (hb : b < 16) (hh : xHo S p b = true) :
    RR (N + 1) (xCl S p b) (if xEl (M.1 0 (16 * p + b)) = true then mSe (mEoF p b 4 0 (mTr M 2 p b)) p b 4 else mSe M p b 4) ∧ xHo (xCl S p b) p b = true := by
  have e0 : M.1 0 (16 * p + b) = S.1 0 (2 * p + b % 2) := by rw [h.1.1 p b hp hb, if_pos hh]
  have h4 : st5 (4 : Int32) := Or.inr (Or.inr (Or.inr (Or.inr rfl)))
  have held : ∀ T : SX, T.1 1 = S.1 1 → xHo (zA T 0 (upd (T.1 0) (2 * p + b % 2) 4)) p b = true := fun T hT => xHo_t.mpr ⟨by
    show ¬ upd (T.1 0) (2 * p + b % 2) 4 (2 * p + b % 2) = 0
    rw [pk_us]
    decide, by
    show T.1 1 (2 * p + b % 2) = nI b
    rw [hT]
    exact (xHo_t.mp hh).2⟩
  unfold xCl xClT
  rw [e0]
  by_cases e : xEl (S.1 0 (2 * p + b % 2)) = true
  · rw [if_pos e, if_pos e]
    obtain ⟨a1, a2, a2', a3, a4, a5, a6, a7, a8, a9⟩ := ra_dr (p := p) hb 4 0 (xTr S 2 p b) (mTr M 2 p b) (by omega) (ra_tr h.1 (by omega))
    have hh2 : xHo (xDrF p b 4 0 (xTr S 2 p b)) p b = true := by
      rw [← hh]
      exact xHo_c (S := S) a4 (by rw [a2']; rfl)
    refine ⟨⟨ra_set a1 hp hb hh2 h4, co_fin (M := M) h.2 (by rw [a6]; rfl) (fun q c _ _ _ => a8.2 _) (fun _ => Or.inl (fun q hq hne => a7 q (by omega) (by omega) hne)) hb⟩, held _ a2'⟩
  · rw [if_neg e, if_neg e]
    refine ⟨⟨ra_mono (ra_set h.1 hp hb hh h4) (by omega), co_fin h.2 rfl (fun q c _ _ _ => Or.inr rfl) (fun hpr => Or.inl (fun q hq hne => Classical.byContradiction fun hx => ?_)) hb⟩, held _ rfl⟩
    have h1 := h.2 hpr p q b hp hq hb (fun z => hne z.symm) ((ra_held h.1 hp hb).mp hh) hx
    rw [← e0, h1] at e
    exact e (by decide)
theorem ra_up {N p a : Nat} (w : Int32) (ha : a < 32) : ∀ (n k : Nat) (S M : SX) (ot : Bool), n + k ≤ 4 → RA N S M →
    RA N (xUpF p a w n k (S, ot)).1 (mUpF p a w n k M) ∧ (xUpF p a w n k (S, ot)).1.1 0 (2 * p + a / 2 % 2) = S.1 0 (2 * p + a / 2 % 2) ∧ (xUpF p a w n k (S, ot)).1.1 1 = S.1 1 ∧ (mUpF p a w n k M).2 = M.2 ∧ (xUpF p a w n k (S, ot)).2 = (ot || !hN S p (a / 2) n k) := by
  intro n
  induction n with
  | zero => exact fun k S M ot _ h => ⟨h, rfl, rfl, rfl, (Bool.or_false ot).symm⟩
  | succ n ih =>
    intro k S M ot hk h
    show RA N (xUpF p a w n (k + 1) (xUp1 p a w k (S, ot))).1 (mUpF p a w n (k + 1) (mUp1 p a w k M)) ∧ (xUpF p a w n (k + 1) (xUp1 p a w k (S, ot))).1.1 0 (2 * p + a / 2 % 2) = S.1 0 (2 * p + a / 2 % 2) ∧ (xUpF p a w n (k + 1) (xUp1 p a w k (S, ot))).1.1 1 = S.1 1 ∧ (mUpF p a w n (k + 1) (mUp1 p a w k M)).2 = M.2 ∧ (xUpF p a w n (k + 1) (xUp1 p a w k (S, ot))).2 = (ot || !((decide (k = p) || !xHo S k (a / 2)) && hN S p (a / 2) n (k + 1)))
    by_cases e : k = p
    · rw [show xUp1 p a w k (S, ot) = (S, ot) by simp [xUp1, e], show mUp1 p a w k M = M by simp [mUp1, e]]
      obtain ⟨a1, a2, a3, a4, a5⟩ := ih (k + 1) S M ot (by omega) h
      exact ⟨a1, a2, a3, a4, by rw [a5]; simp [e]⟩
    · by_cases hh : xHo S k (a / 2) = true
      · have hz : ¬ M.1 0 (16 * k + a / 2) = 0 := (ra_held h (by omega) (by omega)).mp hh
        have g := ra_set (ra_word h (show k < 4 by omega) ha hh w) (show k < 4 by omega) (show a / 2 < 16 by omega) hh (v := 1) (Or.inr (Or.inl rfl))
        rw [show xUp1 p a w k (S, ot) = (zA (zA S 2 (upd (S.1 2) (2 * (2 * k + a / 2 % 2) + a % 2) w)) 0 (upd (S.1 0) (2 * k + a / 2 % 2) 1), true) by simp [xUp1, e, hh], show mUp1 p a w k M = mSe (zA M 1 (upd (M.1 1) (32 * k + a) w)) k (a / 2) 1 by simp [mUp1, e, hz]]
        obtain ⟨a1, a2, a3, a4, a5⟩ := ih (k + 1) (zA (zA S 2 (upd (S.1 2) (2 * (2 * k + a / 2 % 2) + a % 2) w)) 0 (upd (S.1 0) (2 * k + a / 2 % 2) 1)) (mSe (zA M 1 (upd (M.1 1) (32 * k + a) w)) k (a / 2) 1) true (by omega) g
        refine ⟨a1, a2.trans ?_, a3, a4, by rw [a5]; simp [e, hh]⟩
        show upd (S.1 0) (2 * k + a / 2 % 2) 1 (2 * p + a / 2 % 2) = _
        rw [pk_un (by omega)]
      · have hh' := Bool.eq_false_iff.mpr hh
        have hz : M.1 0 (16 * k + a / 2) = 0 := by rw [h.1 k (a / 2) (by omega) (by omega), if_neg hh]
        rw [show xUp1 p a w k (S, ot) = (S, ot) by simp [xUp1, hh'], show mUp1 p a w k M = M by simp [mUp1, hz]]
        obtain ⟨a1, a2, a3, a4, a5⟩ := ih (k + 1) S M ot (by omega) h
        exact ⟨a1, a2, a3, a4, by rw [a5]; simp [hh']⟩
theorem co_p3 {M : SX} (h : M.2 0 = 3) : Co M := fun hp => by
  rw [h] at hp
  rcases hp with hp | hp <;> exact absurd hp (by decide)
/-- a write -/
theorem rr_wr {N : Nat} {S M : SX} (h : RR N S M) {p a : Nat} (hp : p < 4) (ha : a < 32) (w : Int32) : RR (N + 3) (xWr S p a w) (mWr M p a w) := by
  have hb : a / 2 < 16 := by omega
  have hk : (if 3 ≤ (mHi M p (a / 2)).2 0 then 0 else 1) = if S.2 0 = 3 then 0 else 1 := by
    have e1 : (mHi M p (a / 2)).2 0 = S.2 0 := by
      rw [← h.1.2.2.2.2.2.2.2.1.1]
      unfold mHi
      split <;> rfl
    have e2 := (pr_lt h.1.2.2.2.2.2.2.2.2).2.2.2
    rw [e1]
    by_cases e : S.2 0 = 3
    · rw [if_pos e, if_pos (e2.mpr e)]
    · rw [if_neg e, if_neg (fun hx => e (e2.mp hx))]
  have hB : mWrB M p a = if mHo M p (a / 2) = true then mHi M p (a / 2) else mLo (mHi M p (a / 2)) p (a / 2) (if S.2 0 = 3 then 0 else 1) := by
    unfold mWrB
    rw [hk]
  obtain ⟨g, gh⟩ := rr_br h hp hb (show (if S.2 0 = 3 then 0 else 1) < 2 by split <;> omega)
  rw [← hB] at g
  have gh : xHo (xWrB S p a) p (a / 2) = true := gh
  have g : RR (N + 2) (xWrB S p a) (mWrB M p a) := g
  unfold xWr mWr
  generalize hX : xWrB S p a = X at *
  generalize hY : mWrB M p a = Y at *
  have e0 : Y.1 0 (16 * p + a / 2) = X.1 0 (2 * p + a / 2 % 2) := by rw [g.1.1 p (a / 2) hp hb, if_pos gh]
  have s0 := g.1.2.2.2.2.2.2.2.1.1
  have e3 := (pr_lt g.1.2.2.2.2.2.2.2.2).2.2.2
  have hxT : xWrT S p a w = if X.2 0 = 3 then xTe X p a w else xCl X p (a / 2) := by
    unfold xWrT
    rw [hX]
  rw [hxT]
  unfold mWrT xWi
  by_cases e : X.2 0 = 3
  · rw [if_pos e]
    have hY3 : Y.2 0 = 3 := s0.trans e
    have hthree : 3 ≤ Y.2 0 := by
      rw [s0]
      exact e3.mpr e
    have fin : ∀ (Z V : SX) (due : Int32), RA (N + 3) Z V → xHo Z p (a / 2) = true → V.2 0 = 3 → st5 due → ¬ due = 0 → RR (N + 3) (zA (zA Z 0 (upd (Z.1 0) (2 * p + a / 2 % 2) due)) 2 (upd ((zA Z 0 (upd (Z.1 0) (2 * p + a / 2 % 2) due)).1 2) (2 * (2 * p + a / 2 % 2) + a % 2) w)) (mWrE V p a w due) := by
      intro Z V due q1 q2 q3 q4 q5
      have t := ra_set q1 hp hb q2 q4
      have q6 : xHo (zA Z 0 (upd (Z.1 0) (2 * p + a / 2 % 2) due)) p (a / 2) = true := xHo_t.mpr ⟨by
        show ¬ upd (Z.1 0) (2 * p + a / 2 % 2) due (2 * p + a / 2 % 2) = 0
        rw [pk_us]
        exact q5, (xHo_t.mp q2).2⟩
      exact ⟨ra_word t hp ha q6 w, co_p3 q3⟩
    unfold xTe xTeR
    rw [e0]
    by_cases e4 : xEl (X.1 0 (2 * p + a / 2 % 2)) = true
    · rw [if_pos e4, if_pos e4, if_pos hthree]
      have t := ra_tr (N := N + 2) g.1 (k := 3) (p := p) (b := a / 2) (by omega)
      obtain ⟨a1, a2, a3, a4, a5⟩ := ra_up (p := p) w ha 4 0 (xTr X 3 p (a / 2)) (mTr Y 3 p (a / 2)) false (by omega) t
      have hot := ot_flag t (p := p) hb 4 0 0 (by omega)
      have hdue : (if (xUpF p a w 4 0 (xTr X 3 p (a / 2), false)).2 = true then (3 : Int32) else 4) = if 0 < mOtF (mTr Y 3 p (a / 2)) p (a / 2) 4 0 0 then 3 else 4 := by
        rw [a5, Bool.false_or]
        by_cases e5 : hN (xTr X 3 p (a / 2)) p (a / 2) 4 0 = true
        · rw [e5, if_neg (by decide), if_neg (by rw [hot.mpr ⟨rfl, e5⟩]; decide)]
        · rw [Bool.eq_false_iff.mpr e5, if_pos (by decide), if_pos]
          exact Nat.pos_of_ne_zero (fun hx => e5 (hot.mp hx).2)
      rw [← hdue]
      refine fin _ _ _ a1 ?_ ?_ ?_ ?_
      · rw [← gh]
        exact xHo_c (S := X) a2 (by rw [a3]; rfl)
      · rw [a4]
        exact hY3
      · split
        · exact Or.inr (Or.inr (Or.inr (Or.inl rfl)))
        · exact Or.inr (Or.inr (Or.inr (Or.inr rfl)))
      · split <;> decide
    · rw [if_neg e4, if_neg e4]
      exact fin X Y 4 (ra_mono g.1 (by omega)) gh hY3 (Or.inr (Or.inr (Or.inr (Or.inr rfl)))) (by decide)
  · rw [if_neg e]
    have hthree : ¬ 3 ≤ Y.2 0 := by
      rw [s0]
      exact fun hx => e (e3.mp hx)
    obtain ⟨c1, c2⟩ := rr_cl g hp hb gh
    have hE : (if xEl (Y.1 0 (16 * p + a / 2)) = true then if 3 ≤ Y.2 0 then mWrE (mUpF p a w 4 0 (mTr Y 3 p (a / 2))) p a w (if 0 < mOtF (mTr Y 3 p (a / 2)) p (a / 2) 4 0 0 then 3 else 4) else mWrE (mEoF p (a / 2) 4 0 (mTr Y 2 p (a / 2))) p a w 4 else mWrE Y p a w 4)
        = zA (if xEl (Y.1 0 (16 * p + a / 2)) = true then mSe (mEoF p (a / 2) 4 0 (mTr Y 2 p (a / 2))) p (a / 2) 4 else mSe Y p (a / 2) 4) 1 (upd ((if xEl (Y.1 0 (16 * p + a / 2)) = true then mSe (mEoF p (a / 2) 4 0 (mTr Y 2 p (a / 2))) p (a / 2) 4 else mSe Y p (a / 2) 4).1 1) (32 * p + a) w) := by
      by_cases e4 : xEl (Y.1 0 (16 * p + a / 2)) = true
      · rw [if_pos e4, if_neg hthree, if_pos e4]
        rfl
      · rw [if_neg e4, if_neg e4]
        rfl
    rw [hE]
    exact ⟨ra_word c1.1 hp ha c2 w, c1.2⟩
theorem rr_ev {N : Nat} {S M : SX} (h : RR N S M) {p b : Nat} (hp : p < 4) (hb : b < 16) (hh : xHo S p b = true) :
    RR (N + 1) (xEm S (2 * p + b % 2)) (mEm M p b) ∧ xDi (S.1 0 (2 * p + b % 2)) = mDi (M.1 0 (16 * p + b)) := by
  obtain ⟨g1, g2⟩ := ra_em h.1 hp hb hh
  exact ⟨⟨g1, (sub_mEm M p b).co h.2⟩, g2⟩
/-- flush: one processor's two lines -/
theorem rr_flP {N : Nat} {S M : SX} (h : RR N S M) {p t : Nat} (hp : p < 4) :
    ∃ (S' M' : SX) (t' : Nat), mFlL p (M, t) = (M', t') ∧ (∀ n, xFlF (n + 2) (2 * p) (S, t) = xFlF n (2 * p + 2) (S', t')) ∧ RR (N + 2) S' M' := by
  obtain ⟨M1, a1, a2, a3⟩ := ra_fl h.1 hp (show 0 < 2 by omega) t
  have c1 : Co M1 := by
    rw [a3]
    exact (sub_ev p 8 0 M).co h.2
  obtain ⟨M2, b1, b2, b3⟩ := ra_fl a2 hp (show 1 < 2 by omega) (if xDi (S.1 0 (2 * p + 0)) = true then t + 1 else t)
  have c2 : Co M2 := by
    rw [b3]
    exact (sub_ev p 8 1 M1).co c1
  exact ⟨xEm (xEm S (2 * p + 0)) (2 * p + 1), M2, (if xDi ((xEm S (2 * p + 0)).1 0 (2 * p + 1)) = true then (if xDi (S.1 0 (2 * p + 0)) = true then t + 1 else t) + 1 else (if xDi (S.1 0 (2 * p + 0)) = true then t + 1 else t)), by unfold mFlL; rw [a1, b1], fun n => rfl, b2, c2⟩
theorem rr_fl {N : Nat} {S M : SX} (h : RR N S M) : RR (N + 8) (xFlF 8 0 (S, 0)).1 (mFlP 4 0 (M, 0)).1 ∧ (xFlF 8 0 (S, 0)).2 = (mFlP 4 0 (M, 0)).2 := by
  obtain ⟨S1, M1, t1, a1, a2, a3⟩ := rr_flP h (p := 0) (t := 0) (by omega)
  obtain ⟨S2, M2, t2, b1, b2, b3⟩ := rr_flP a3 (p := 1) (t := t1) (by omega)
  obtain ⟨S3, M3, t3, c1, c2, c3⟩ := rr_flP b3 (p := 2) (t := t2) (by omega)
  obtain ⟨S4, M4, t4, d1, d2, d3⟩ := rr_flP c3 (p := 3) (t := t3) (by omega)
  have ex : xFlF 8 0 (S, 0) = (S4, t4) := ((a2 6).trans ((b2 4).trans ((c2 2).trans (d2 0))))
  have em : mFlP 4 0 (M, 0) = (M4, t4) := by
    show mFlL 3 (mFlL 2 (mFlL 1 (mFlL 0 (M, 0)))) = _
    rw [a1, b1, c1, d1]
  rw [ex, em]
  exact ⟨d3, rfl⟩
theorem rr_ch {N : Nat} {S M : SX} (h : RR N S M) {v : Int32} (hv : v = 0 ∨ v = 1 ∨ v = 2 ∨ v = 3) : RR 0 (xSo S v) (mCh M v) := by
  have nh : ∀ p b, ¬ xHo (xSo S v) p b = true := fun p b hx => (xHo_t.mp hx).1 rfl
  refine ⟨⟨fun p b _ _ => by rw [if_neg (nh p b)]; rfl, fun p a _ _ hx => absurd hx (nh p _), fun i hi => ?_, fun i hi => Or.inl rfl, fun a ha => rfl, fun k hk => rfl, ⟨0, Nat.le_refl 0, rfl, fun k hk => rfl⟩, ⟨rfl, rfl, rfl, rfl⟩, hv⟩, fun _ p q b _ _ _ _ n1 => absurd rfl n1⟩
  obtain ⟨b, hb, e, -⟩ := h.1.2.2.1 i hi
  exact ⟨b, hb, e, fun hx => absurd rfl hx⟩
