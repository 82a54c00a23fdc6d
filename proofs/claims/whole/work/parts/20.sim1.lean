/-! the class and the reference, step by step: RA holds between their states -/
def st5 (v : Int32) : Prop := v = 0 ∨ v = 1 ∨ v = 2 ∨ v = 3 ∨ v = 4
def RA (N : Nat) (S M : SX) : Prop :=
  (∀ p b, p < 4 → b < 16 → M.1 0 (16 * p + b) = if xHo S p b = true then S.1 0 (2 * p + b % 2) else 0) ∧
  (∀ p a, p < 4 → a < 32 → xHo S p (a / 2) = true → M.1 1 (32 * p + a) = S.1 2 (2 * (2 * p + a / 2 % 2) + a % 2)) ∧
  (∀ i, i < 8 → ∃ b, b < 16 ∧ S.1 1 i = nI b ∧ (¬ S.1 0 i = 0 → b % 2 = i % 2)) ∧
  (∀ i, i < 8 → st5 (S.1 0 i)) ∧
  (∀ a, a < 32 → M.1 2 a = S.1 3 a) ∧
  (∀ k, k < 5 → M.1 3 k = S.1 4 k) ∧
  (∃ n, n ≤ N ∧ S.2 1 = nI n ∧ ∀ k, k < 8 → S.1 5 k = if k < n then M.1 4 k else -1) ∧
  (M.2 0 = S.2 0 ∧ M.2 1 = S.2 1 ∧ M.2 2 = S.2 2 ∧ M.2 3 = S.2 3) ∧
  (S.2 0 = 0 ∨ S.2 0 = 1 ∨ S.2 0 = 2 ∨ S.2 0 = 3)
theorem xHo_t {S : SX} {p b : Nat} : xHo S p b = true ↔ (¬ S.1 0 (2 * p + b % 2) = 0 ∧ S.1 1 (2 * p + b % 2) = nI b) := by
  simp [xHo]
theorem xHo_c {S T : SX} {p b : Nat} (h0 : T.1 0 (2 * p + b % 2) = S.1 0 (2 * p + b % 2)) (h1 : T.1 1 (2 * p + b % 2) = S.1 1 (2 * p + b % 2)) : xHo T p b = xHo S p b := by
  unfold xHo
  rw [h0, h1]
theorem nI_ij {a b : Nat} (ha : a < 64) (hb : b < 64) (h : nI a = nI b) : a = b :=
  (nI_eq (Nat.lt_trans ha (by decide)) (Nat.lt_trans hb (by decide))).mp h
theorem upd_id {f : Nat → Int32} {i : Nat} {v : Int32} (h : f i = v) : upd f i v = f := by
  funext j
  by_cases e : j = i
  · rw [e, pk_us, h]
  · rw [pk_un e]
theorem ra_okB {N : Nat} {S M : SX} (h : RA N S M) : okB S := fun i hi => by
  obtain ⟨b, hb, e, -⟩ := h.2.2.1 i hi
  exact ⟨b, hb, e⟩
theorem ra_mono {N N' : Nat} {S M : SX} (h : RA N S M) (hN : N ≤ N') : RA N' S M := by
  obtain ⟨r1, r2, r3, r4, r5, r6, ⟨n, hn, r7⟩, r8, r9⟩ := h
  exact ⟨r1, r2, r3, r4, r5, r6, ⟨n, Nat.le_trans hn hN, r7⟩, r8, r9⟩
/-- a held line's state is set on both sides -/
theorem ra_set {N : Nat} {S M : SX} (h : RA N S M) {p b : Nat} (hp : p < 4) (hb : b < 16) (hh : xHo S p b = true) {v : Int32} (hv : st5 v) : RA N (zA S 0 (upd (S.1 0) (2 * p + b % 2) v)) (mSe M p b v) := by
  obtain ⟨r1, r2, r3, r4, r5, r6, r7, r8, r9⟩ := h
  obtain ⟨h0, h1⟩ := xHo_t.mp hh
  have g0 : (zA S 0 (upd (S.1 0) (2 * p + b % 2) v)).1 0 = upd (S.1 0) (2 * p + b % 2) v := rfl
  have g1 : (zA S 0 (upd (S.1 0) (2 * p + b % 2) v)).1 1 = S.1 1 := rfl
  have g2 : (mSe M p b v).1 0 = upd (M.1 0) (16 * p + b) v := rfl
  refine ⟨?_, ?_, ?_, ?_, r5, r6, r7, r8, r9⟩
  · intro q c hq hc
    rw [g2]
    by_cases e : 2 * q + c % 2 = 2 * p + b % 2
    · have eq : q = p := by omega
      subst eq
      by_cases ec : c = b
      · subst ec
        rw [pk_us]
        by_cases hv0 : v = 0
        · have hf : ¬ xHo (zA S 0 (upd (S.1 0) (2 * q + c % 2) v)) q c = true := fun hx => by
            have h2 := (xHo_t.mp hx).1
            rw [g0, pk_us] at h2
            exact h2 hv0
          rw [if_neg hf, hv0]
        · rw [if_pos (xHo_t.mpr ⟨by rw [g0, pk_us]; exact hv0, by rw [g1]; exact h1⟩), g0, pk_us]
      · have hne : ¬ S.1 1 (2 * q + c % 2) = nI c := fun hx => by
          rw [e, h1] at hx
          exact ec (nI_ij (by omega) (by omega) hx).symm
        rw [pk_un (by omega), r1 q c hq hc, if_neg (fun hx => hne (xHo_t.mp hx).2), if_neg (show ¬ xHo (zA S 0 (upd (S.1 0) (2 * q + b % 2) v)) q c = true from fun hx => hne (xHo_t.mp hx).2)]
    · rw [pk_un (by omega), r1 q c hq hc, xHo_c (S := S) (T := zA S 0 (upd (S.1 0) (2 * p + b % 2) v)) (by rw [g0, pk_un e]) (by rw [g1]), g0, pk_un e]
  · intro q a hq ha hx
    refine r2 q a hq ha ?_
    have h2 := xHo_t.mp hx
    rw [g0, g1] at h2
    by_cases e : 2 * q + a / 2 % 2 = 2 * p + b % 2
    · refine xHo_t.mpr ⟨?_, h2.2⟩
      rw [e]
      exact h0
    · rw [pk_un e] at h2
      exact xHo_t.mpr h2
  · intro i hi
    obtain ⟨c, hc, e1, e2⟩ := r3 i hi
    refine ⟨c, hc, e1, fun hx => ?_⟩
    by_cases e : i = 2 * p + b % 2
    · exact e2 (by rw [e]; exact h0)
    · rw [g0, pk_un e] at hx
      exact e2 hx
  · intro i hi
    rw [g0]
    by_cases e : i = 2 * p + b % 2
    · rw [e, pk_us]
      exact hv
    · rw [pk_un e]
      exact r4 i hi
theorem shF_at (f : Nat → Int32) : ∀ n j : Nat, shF n f j = if 1 ≤ j ∧ j ≤ n then f (j - 1) else f j := by
  intro n
  induction n generalizing f with
  | zero =>
    intro j
    rw [if_neg (by omega)]
    rfl
  | succ n ih =>
    intro j
    show shF n (upd f (n + 1) (f n)) j = _
    rw [ih]
    by_cases h1 : 1 ≤ j ∧ j ≤ n
    · rw [if_pos h1, if_pos (by omega), pk_un (by omega)]
    · rw [if_neg h1]
      by_cases h2 : j = n + 1
      · rw [h2, pk_us, if_pos (by omega)]
        rfl
      · rw [pk_un h2, if_neg (by omega)]
/-- a transaction on both sides -/
theorem ra_tr {N : Nat} {S M : SX} (h : RA N S M) {k p b : Nat} (hk : k < 5) : RA (N + 1) (xTr S k p b) (mTr M k p b) := by
  obtain ⟨r1, r2, r3, r4, r5, r6, ⟨n, hn, t1, t2⟩, ⟨s0, s1, s2, s3⟩, r9⟩ := h
  refine ⟨r1, r2, r3, r4, r5, ?_, ⟨n + 1, by omega, ?_, ?_⟩, ⟨s0, ?_, s2, s3⟩, r9⟩
  · intro j hj
    show upd (M.1 3) k (M.1 3 k + 1) j = upd (S.1 4) k (S.1 4 k + 1) j
    by_cases e : j = k
    · rw [e, pk_us, pk_us, r6 k hk]
    · rw [pk_un e, pk_un e, r6 j hj]
  · show S.2 1 + 1 = nI (n + 1)
    rw [t1, nI_1]
  · intro j hj
    show upd (shF 7 (S.1 5)) 0 (nI (64 * k + 16 * p + b)) j = if j < n + 1 then upd (shF 7 (M.1 4)) 0 (nI (64 * k + 16 * p + b)) j else -1
    by_cases e : j = 0
    · rw [e, pk_us, pk_us, if_pos (by omega)]
    · have hj7 : 1 ≤ j ∧ j ≤ 7 := by omega
      rw [pk_un e, pk_un e, shF_at, shF_at, if_pos hj7, if_pos hj7, t2 (j - 1) (by omega)]
      by_cases e2 : j < n + 1
      · rw [if_pos e2, if_pos (by omega)]
      · rw [if_neg e2, if_neg (by omega)]
  · show M.2 1 + 1 = S.2 1 + 1
    rw [s1]
/-- a held block goes to memory on both sides -/
theorem ra_cp {N : Nat} {S M : SX} (h : RA N S M) {p b : Nat} (hp : p < 4) (hb : b < 16) (hh : xHo S p b = true) : RA N (xCp S (2 * p + b % 2)) (mTm M p b) := by
  obtain ⟨r1, r2, r3, r4, r5, r6, r7, r8, r9⟩ := h
  obtain ⟨h0, h1⟩ := xHo_t.mp hh
  refine ⟨r1, r2, r3, r4, ?_, r6, r7, r8, r9⟩
  intro a ha
  show upd (upd (M.1 2) (2 * b) (M.1 1 (32 * p + 2 * b))) (2 * b + 1) (M.1 1 (32 * p + 2 * b + 1)) a = va_cpy (S.1 2) (S.1 3) (2 * (2 * p + b % 2)) (2 * (S.1 1 (2 * p + b % 2)).toNatClampNeg) 2 a
  rw [h1, nI_clamp (Nat.lt_trans hb (by decide))]
  have w : ∀ k, k < 2 → M.1 1 (32 * p + (2 * b + k)) = S.1 2 (2 * (2 * p + b % 2) + k) := fun k hk => by
    have e1 : (2 * b + k) / 2 = b := by omega
    have e2 : (2 * b + k) % 2 = k := by omega
    have h3 := r2 p (2 * b + k) hp (by omega) (by rw [e1]; exact hh)
    rw [e1, e2] at h3
    exact h3
  by_cases e : a = 2 * b + 1
  · subst e
    rw [pk_us, pk_cpy_in (by omega) (by omega)]
    have := w 1 (by omega)
    rw [show 2 * b + 1 - 2 * b = 1 by omega, ← this]
    rfl
  · rw [pk_un e]
    by_cases e2 : a = 2 * b
    · subst e2
      rw [pk_us, pk_cpy_in (by omega) (by omega)]
      have := w 0 (by omega)
      rw [show 2 * b - 2 * b = 0 by omega, ← this]
      rfl
    · rw [pk_un e2, pk_cpy_out (by omega), r5 a ha]
theorem di_eq {v : Int32} (h : st5 v) : xDi v = mDi v := by
  rcases h with rfl | rfl | rfl | rfl | rfl <;> decide
theorem st5_le {v : Int32} (h : st5 v) : v ≤ 0 ↔ v = 0 := by
  rcases h with rfl | rfl | rfl | rfl | rfl <;> decide
theorem ra_st {N : Nat} {S M : SX} (h : RA N S M) {p b : Nat} (hp : p < 4) (hb : b < 16) : st5 (M.1 0 (16 * p + b)) := by
  rw [h.1 p b hp hb]
  split
  · exact h.2.2.2.1 _ (by omega)
  · exact Or.inl rfl
theorem ra_held {N : Nat} {S M : SX} (h : RA N S M) {p b : Nat} (hp : p < 4) (hb : b < 16) : xHo S p b = true ↔ ¬ M.1 0 (16 * p + b) = 0 := by
  rw [h.1 p b hp hb]
  constructor
  · intro hx
    rw [if_pos hx]
    exact (xHo_t.mp hx).1
  · intro hx
    by_cases e : xHo S p b = true
    · exact e
    · rw [if_neg e] at hx
      exact absurd rfl hx
/-- a held line is emptied -/
theorem ra_em {N : Nat} {S M : SX} (h : RA N S M) {p b : Nat} (hp : p < 4) (hb : b < 16) (hh : xHo S p b = true) : RA (N + 1) (xEm S (2 * p + b % 2)) (mEm M p b) ∧ xDi (S.1 0 (2 * p + b % 2)) = mDi (M.1 0 (16 * p + b)) := by
  have h4 := h.2.2.2.1 (2 * p + b % 2) (by omega)
  have e1 : M.1 0 (16 * p + b) = S.1 0 (2 * p + b % 2) := by rw [h.1 p b hp hb, if_pos hh]
  have ed : xDi (S.1 0 (2 * p + b % 2)) = mDi (M.1 0 (16 * p + b)) := by rw [e1]; exact di_eq h4
  refine ⟨?_, ed⟩
  unfold xEm mEm xEmT mEmT
  rw [← ed]
  by_cases hd : xDi (S.1 0 (2 * p + b % 2)) = true
  · rw [if_pos hd, if_pos hd]
    have h1 := (xHo_t.mp hh).2
    rw [h1, nI_clamp (Nat.lt_trans hb (by decide)), show (2 * p + b % 2) / 2 = p by omega]
    exact ra_set (ra_cp (ra_tr h (by decide)) hp hb hh) hp hb hh (Or.inl rfl)
  · rw [if_neg hd, if_neg hd]
    exact ra_mono (ra_set h hp hb hh (Or.inl rfl)) (by omega)
theorem xEm_0 {S : SX} {i : Nat} (h : S.1 0 i = 0) : xEm S i = S := by
  unfold xEm xEmT
  rw [h, if_neg (by decide), upd_id h, zA_id]
theorem mEv_none {p : Nat} : ∀ (n c : Nat) (M : SX), (∀ j, j < n → M.1 0 (16 * p + (c + 2 * j)) = 0) → mEvF p n c M = M := by
  intro n
  induction n with
  | zero =>
    intro c M _
    rfl
  | succ n ih =>
    intro c M h
    show mEvF p n (c + 2) (mEv1 p c M) = M
    have e : mEv1 p c M = M := by
      unfold mEv1
      rw [if_pos]
      have := h 0 (by omega)
      rw [show 16 * p + (c + 2 * 0) = 16 * p + c by omega] at this
      rw [this]
      decide
    rw [e]
    refine ih (c + 2) M (fun j hj => ?_)
    have := h (j + 1) (by omega)
    rw [show c + 2 * (j + 1) = c + 2 + 2 * j by omega] at this
    exact this
theorem mEm_0 {M : SX} {p b c : Nat} (h : c ≠ b) : (mEm M p b).1 0 (16 * p + c) = M.1 0 (16 * p + c) := by
  unfold mEm
  show upd ((mEmT M p b).1 0) (16 * p + b) 0 (16 * p + c) = _
  rw [pk_un (by omega)]
  unfold mEmT
  split <;> rfl
theorem mEv_one {p b : Nat} : ∀ (n c j0 : Nat) (M : SX), j0 < n → b = c + 2 * j0 → ¬ M.1 0 (16 * p + b) ≤ 0 → (∀ j, j < n → j ≠ j0 → M.1 0 (16 * p + (c + 2 * j)) = 0) → mEvF p n c M = mEm M p b := by
  intro n
  induction n with
  | zero =>
    intro c j0 M hj
    exact absurd hj (Nat.not_lt_zero j0)
  | succ n ih =>
    intro c j0 M hj hb hh h
    show mEvF p n (c + 2) (mEv1 p c M) = _
    by_cases e0 : j0 = 0
    · subst e0
      obtain rfl : b = c := by omega
      have e : mEv1 p b M = mEm M p b := by
        unfold mEv1
        rw [if_neg hh]
      rw [e]
      refine mEv_none n (b + 2) _ (fun j hj => ?_)
      rw [mEm_0 (by omega)]
      have := h (j + 1) (by omega) (by omega)
      rw [show b + 2 * (j + 1) = b + 2 + 2 * j by omega] at this
      exact this
    · have e : mEv1 p c M = M := by
        unfold mEv1
        rw [if_pos]
        have := h 0 (by omega) (fun z => e0 z.symm)
        rw [show 16 * p + (c + 2 * 0) = 16 * p + c by omega] at this
        rw [this]
        decide
      rw [e]
      refine ih (c + 2) (j0 - 1) M (by omega) (by omega) hh (fun j hj hne => ?_)
      have := h (j + 1) (by omega) (by omega)
      rw [show c + 2 * (j + 1) = c + 2 + 2 * j by omega] at this
      exact this
/-- which block a line holds, in the reference's words -/
theorem ra_line {N : Nat} {S M : SX} (h : RA N S M) {p d : Nat} (hp : p < 4) (hd : d < 2) :
    (S.1 0 (2 * p + d) = 0 ∧ ∀ c, c < 16 → c % 2 = d → M.1 0 (16 * p + c) = 0) ∨
    (∃ b, b < 16 ∧ b % 2 = d ∧ xHo S p b = true ∧ ∀ c, c < 16 → c % 2 = d → c ≠ b → M.1 0 (16 * p + c) = 0) := by
  by_cases e : S.1 0 (2 * p + d) = 0
  · refine Or.inl ⟨e, fun c hc hcd => ?_⟩
    rw [h.1 p c hp hc, if_neg]
    intro hx
    have := (xHo_t.mp hx).1
    rw [hcd] at this
    exact this e
  · obtain ⟨b, hb, e1, e2⟩ := h.2.2.1 (2 * p + d) (by omega)
    have e3 := e2 e
    have e4 : b % 2 = d := by omega
    refine Or.inr ⟨b, hb, e4, xHo_t.mpr ⟨by rw [e4]; exact e, by rw [e4]; exact e1⟩, fun c hc hcd hne => ?_⟩
    rw [h.1 p c hp hc, if_neg]
    intro hx
    have := (xHo_t.mp hx).2
    rw [hcd, e1] at this
    exact hne (nI_ij (by omega) (by omega) this).symm
/-- a line is emptied, held or not -/
theorem ra_ev {N : Nat} {S M : SX} (h : RA N S M) {p d : Nat} (hp : p < 4) (hd : d < 2) : RA (N + 1) (xEm S (2 * p + d)) (mEvF p 8 d M) := by
  rcases ra_line h hp hd with ⟨e, hz⟩ | ⟨b, hb, e4, hh, hz⟩
  · rw [xEm_0 e, mEv_none 8 d M (fun j hj => hz _ (by omega) (by omega))]
    exact ra_mono h (by omega)
  · have hst := ra_st h hp hb
    rw [mEv_one (b := b) 8 d ((b - d) / 2) M (by omega) (by omega) (fun hx => (ra_held h hp hb).mp hh ((st5_le hst).mp hx)) (fun j hj hne => hz _ (by omega) (by omega) (by omega))]
    have := (ra_em h hp hb hh).1
    rw [e4] at this
    exact this
theorem mFl_none {p : Nat} : ∀ (n c t : Nat) (M : SX), (∀ j, j < n → M.1 0 (16 * p + (c + 2 * j)) = 0) → mFlB p n c (M, t) = (M, t) := by
  intro n
  induction n with
  | zero =>
    intro c t M _
    rfl
  | succ n ih =>
    intro c t M h
    show mFlB p n (c + 2) (mFl1 p c (M, t)) = _
    have e : mFl1 p c (M, t) = (M, t) := by
      unfold mFl1
      rw [if_pos]
      have := h 0 (by omega)
      rw [show 16 * p + (c + 2 * 0) = 16 * p + c by omega] at this
      show M.1 0 (16 * p + c) ≤ 0
      rw [this]
      decide
    rw [e]
    refine ih (c + 2) t M (fun j hj => ?_)
    have := h (j + 1) (by omega)
    rw [show c + 2 * (j + 1) = c + 2 + 2 * j by omega] at this
    exact this
theorem mFl_one {p b : Nat} : ∀ (n c j0 t : Nat) (M : SX), j0 < n → b = c + 2 * j0 → ¬ M.1 0 (16 * p + b) ≤ 0 → (∀ j, j < n → j ≠ j0 → M.1 0 (16 * p + (c + 2 * j)) = 0) → mFlB p n c (M, t) = (mEm M p b, if mDi (M.1 0 (16 * p + b)) = true then t + 1 else t) := by
  intro n
  induction n with
  | zero =>
    intro c j0 t M hj
    exact absurd hj (Nat.not_lt_zero j0)
  | succ n ih =>
    intro c j0 t M hj hb hh h
    show mFlB p n (c + 2) (mFl1 p c (M, t)) = _
    by_cases e0 : j0 = 0
    · subst e0
      obtain rfl : b = c := by omega
      have e : mFl1 p b (M, t) = (mEm M p b, if mDi (M.1 0 (16 * p + b)) = true then t + 1 else t) := by
        unfold mFl1
        rw [if_neg hh]
      rw [e]
      refine mFl_none n (b + 2) _ _ (fun j hj => ?_)
      rw [mEm_0 (by omega)]
      have := h (j + 1) (by omega) (by omega)
      rw [show b + 2 * (j + 1) = b + 2 + 2 * j by omega] at this
      exact this
    · have e : mFl1 p c (M, t) = (M, t) := by
        unfold mFl1
        rw [if_pos]
        have := h 0 (by omega) (fun z => e0 z.symm)
        rw [show 16 * p + (c + 2 * 0) = 16 * p + c by omega] at this
        show M.1 0 (16 * p + c) ≤ 0
        rw [this]
        decide
      rw [e]
      refine ih (c + 2) (j0 - 1) t M (by omega) (by omega) hh (fun j hj hne => ?_)
      have := h (j + 1) (by omega) (by omega)
      rw [show c + 2 * (j + 1) = c + 2 + 2 * j by omega] at this
      exact this
/-- flush, one line -/
theorem ra_fl {N : Nat} {S M : SX} (h : RA N S M) {p d : Nat} (hp : p < 4) (hd : d < 2) (t : Nat) :
    ∃ M', mFlB p 8 d (M, t) = (M', if xDi (S.1 0 (2 * p + d)) = true then t + 1 else t) ∧ RA (N + 1) (xEm S (2 * p + d)) M' ∧ M' = mEvF p 8 d M := by
  rcases ra_line h hp hd with ⟨e, hz⟩ | ⟨b, hb, e4, hh, hz⟩
  · refine ⟨M, ?_, ?_, ?_⟩
    · rw [mFl_none 8 d t M (fun j hj => hz _ (by omega) (by omega)), e, if_neg (by decide)]
    · rw [xEm_0 e]
      exact ra_mono h (by omega)
    · rw [mEv_none 8 d M (fun j hj => hz _ (by omega) (by omega))]
  · have hst := ra_st h hp hb
    have hnz : ¬ M.1 0 (16 * p + b) ≤ 0 := fun hx => (ra_held h hp hb).mp hh ((st5_le hst).mp hx)
    obtain ⟨g1, g2⟩ := ra_em h hp hb hh
    rw [e4] at g1 g2
    refine ⟨mEm M p b, ?_, g1, ?_⟩
    · rw [mFl_one (b := b) 8 d ((b - d) / 2) t M (by omega) (by omega) hnz (fun j hj hne => hz _ (by omega) (by omega) (by omega)), g2]
    · rw [mEv_one (b := b) 8 d ((b - d) / 2) M (by omega) (by omega) hnz (fun j hj hne => hz _ (by omega) (by omega) (by omega))]
