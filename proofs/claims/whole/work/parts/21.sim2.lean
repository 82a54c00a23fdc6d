/-! holders of one block: where the protocol has no owner, two holders are both shared -/
def Co (M : SX) : Prop := (M.2 0 = 0 ∨ M.2 0 = 1) → ∀ p q b, p < 4 → q < 4 → b < 16 → p ≠ q → ¬ M.1 0 (16 * p + b) = 0 → ¬ M.1 0 (16 * q + b) = 0 → M.1 0 (16 * p + b) = 1
def Sub (M M' : SX) : Prop := M'.2 0 = M.2 0 ∧ ∀ j, M'.1 0 j = 0 ∨ M'.1 0 j = M.1 0 j
theorem Sub.rf (M : SX) : Sub M M := ⟨rfl, fun _ => Or.inr rfl⟩
theorem Sub.tr {M M1 M2 : SX} (h1 : Sub M M1) (h2 : Sub M1 M2) : Sub M M2 := ⟨h2.1.trans h1.1, fun j => by
  rcases h2.2 j with h | h
  · exact Or.inl h
  · rcases h1.2 j with g | g
    · exact Or.inl (h.trans g)
    · exact Or.inr (h.trans g)⟩
theorem Sub.co {M M' : SX} (h : Sub M M') (hc : Co M) : Co M' := by
  intro hp p q b h1 h2 h3 hne n1 n2
  have e1 := (h.2 (16 * p + b)).resolve_left n1
  have e2 := (h.2 (16 * q + b)).resolve_left n2
  rw [e1] at n1 ⊢
  rw [e2] at n2
  rw [h.1] at hp
  exact hc hp p q b h1 h2 h3 hne n1 n2
theorem sub_mSe (M : SX) (p b : Nat) : Sub M (mSe M p b 0) := ⟨rfl, fun j => by
  show upd (M.1 0) (16 * p + b) 0 j = 0 ∨ _
  by_cases e : j = 16 * p + b
  · rw [e, pk_us]
    exact Or.inl rfl
  · rw [show (mSe M p b 0).1 0 j = upd (M.1 0) (16 * p + b) 0 j from rfl, pk_un e]
    exact Or.inr rfl⟩
theorem sub_mEm (M : SX) (p b : Nat) : Sub M (mEm M p b) := by
  unfold mEm
  refine Sub.tr ?_ (sub_mSe _ p b)
  unfold mEmT
  split
  · exact ⟨rfl, fun _ => Or.inr rfl⟩
  · exact Sub.rf M
theorem sub_ev (p : Nat) : ∀ (n c : Nat) (M : SX), Sub M (mEvF p n c M) := by
  intro n
  induction n with
  | zero => exact fun c M => Sub.rf M
  | succ n ih =>
    intro c M
    refine Sub.tr ?_ (ih (c + 2) (mEv1 p c M))
    unfold mEv1
    split
    · exact Sub.rf M
    · exact sub_mEm M p c
theorem ra_c {N : Nat} {S M : SX} (h : RA N S M) {k b : Nat} (hk : k < 4) (hb : b < 16) : (xHo S k b && xDi (S.1 0 (2 * k + b % 2))) = mDi (M.1 0 (16 * k + b)) := by
  rw [h.1 k b hk hb]
  by_cases e : xHo S k b = true
  · rw [if_pos e, e, Bool.true_and]
    exact di_eq (h.2.2.2.1 _ (by omega))
  · rw [if_neg e, Bool.eq_false_iff.mpr e, Bool.false_and]
    decide
/-- the first dirty holder is the same -/
theorem ra_dl {N : Nat} {S M : SX} (h : RA N S M) {b : Nat} (hb : b < 16) : ∀ n k : Nat, n + k ≤ 4 →
    (xDlF S b n k = -1 ∧ mDhF M b n k = -1 ∧ ∀ q, k ≤ q → q < k + n → mDi (M.1 0 (16 * q + b)) = false) ∨
    ∃ q, q < 4 ∧ xDlF S b n k = nI (2 * q + b % 2) ∧ mDhF M b n k = nI q ∧ xHo S q b = true ∧ mDi (M.1 0 (16 * q + b)) = true := by
  intro n
  induction n with
  | zero => exact fun k _ => Or.inl ⟨rfl, rfl, fun q h1 h2 => absurd h2 (by omega)⟩
  | succ n ih =>
    intro k hk
    have hc := ra_c h (show k < 4 by omega) hb
    unfold xDlF mDhF
    by_cases e : mDi (M.1 0 (16 * k + b)) = true
    · rw [hc, if_pos e, if_pos e]
      refine Or.inr ⟨k, by omega, rfl, rfl, ?_, e⟩
      rw [e] at hc
      exact (Bool.and_eq_true _ _ ▸ hc).1
    · rw [hc, if_neg e, if_neg e]
      rcases ih (k + 1) (by omega) with ⟨g1, g2, g3⟩ | g
      · refine Or.inl ⟨g1, g2, fun q h1 h2 => ?_⟩
        by_cases e2 : q = k
        · rw [e2]
          exact Bool.eq_false_iff.mpr e
        · exact g3 q (by omega) (by omega)
      · exact Or.inr g
/-- words of an empty line may change -/
theorem ra_fe0 {N : Nat} {S M : SX} (h : RA N S M) {p b : Nat} (hp : p < 4) (hb : b < 16) (he : S.1 0 (2 * p + b % 2) = 0) {g g' : Nat → Int32}
    (hg : ∀ j, ¬ (2 * (2 * p + b % 2) ≤ j ∧ j < 2 * (2 * p + b % 2) + 2) → g j = S.1 2 j) (hg' : ∀ j, ¬ (32 * p + 2 * b ≤ j ∧ j < 32 * p + 2 * b + 2) → g' j = M.1 1 j) : RA N (zA S 2 g) (zA M 1 g') := by
  obtain ⟨r1, r2, r3, r4, r5, r6, r7, r8, r9⟩ := h
  refine ⟨r1, ?_, r3, r4, r5, r6, r7, r8, r9⟩
  intro q a hq ha hx
  have hx' : xHo S q (a / 2) = true := hx
  have h0 := (xHo_t.mp hx').1
  show g' (32 * q + a) = g (2 * (2 * q + a / 2 % 2) + a % 2)
  rw [hg' _ (fun hj => ?_), hg _ (fun hj => ?_)]
  · exact r2 q a hq ha hx'
  · rw [show 2 * q + a / 2 % 2 = 2 * p + b % 2 by omega] at h0
    exact h0 he
  · obtain rfl : q = p := by omega
    rw [show a / 2 = b by omega] at h0
    exact h0 he
/-- the words are fetched -/
theorem ra_fe {N : Nat} {S M : SX} (h : RA N S M) {p b : Nat} (hp : p < 4) (hb : b < 16) (he : S.1 0 (2 * p + b % 2) = 0) :
    RA N (xFe S (2 * p + b % 2) b) (mCw p b (mDhF M b 4 0) M) ∧ (∀ j, j < 2 → (mCw p b (mDhF M b 4 0) M).1 1 (32 * p + (2 * b + j)) = (xFe S (2 * p + b % 2) b).1 2 (2 * (2 * p + b % 2) + j)) ∧ (xFe S (2 * p + b % 2) b).1 0 = S.1 0 ∧ (mCw p b (mDhF M b 4 0) M).1 0 = M.1 0 ∧ (mCw p b (mDhF M b 4 0) M).2 = M.2 := by
  obtain ⟨-, r2, -, -, r5, -, -, -, -⟩ := id h
  have key : ∀ (v : Nat → Int32) (f : Int32) (gs : Nat → Int32), mCw p b f M = zA M 1 (upd (upd (M.1 1) (32 * p + (2 * b + 0)) (v 0)) (32 * p + (2 * b + 1)) (v 1)) → xFe S (2 * p + b % 2) b = zA S 2 gs →
      (∀ j, ¬ (2 * (2 * p + b % 2) ≤ j ∧ j < 2 * (2 * p + b % 2) + 2) → gs j = S.1 2 j) → (∀ j, j < 2 → gs (2 * (2 * p + b % 2) + j) = v j) →
      RA N (xFe S (2 * p + b % 2) b) (mCw p b f M) ∧ (∀ j, j < 2 → (mCw p b f M).1 1 (32 * p + (2 * b + j)) = (xFe S (2 * p + b % 2) b).1 2 (2 * (2 * p + b % 2) + j)) ∧ (xFe S (2 * p + b % 2) b).1 0 = S.1 0 ∧ (mCw p b f M).1 0 = M.1 0 ∧ (mCw p b f M).2 = M.2 := by
    intro v f gs e1 e2 h1 h2
    rw [e1, e2]
    refine ⟨ra_fe0 h hp hb he h1 (fun j hj => by rw [pk_un (by omega), pk_un (by omega)]), fun j hj => ?_, rfl, rfl, rfl⟩
    show upd (upd (M.1 1) (32 * p + (2 * b + 0)) (v 0)) (32 * p + (2 * b + 1)) (v 1) (32 * p + (2 * b + j)) = gs (2 * (2 * p + b % 2) + j)
    rw [h2 j hj]
    by_cases e : j = 1
    · rw [e, pk_us]
    · obtain rfl : j = 0 := by omega
      rw [pk_un (by omega), pk_us]
  rcases ra_dl h hb 4 0 (by omega) with ⟨g1, g2, -⟩ | ⟨q, hq, g1, g2, g3, -⟩
  · have d1 : xDl S b = -1 := g1
    refine key (fun j => M.1 2 (2 * b + j)) _ (va_cpy (S.1 3) (S.1 2) (2 * b) (2 * (2 * p + b % 2)) 2) ?_ ?_ (fun j hj => pk_cpy_out (by omega)) (fun j hj => ?_)
    · rw [g2]
      unfold mCw mCw1
      rw [if_pos (by decide), if_pos (by decide), zA_zA, zA_s]
      rfl
    · unfold xFe
      rw [if_pos d1]
    · rw [pk_cpy_in (by omega) (by omega), show 2 * (2 * p + b % 2) + j - 2 * (2 * p + b % 2) = j by omega]
      exact (r5 _ (by omega)).symm
  · have d1 : xDl S b = nI (2 * q + b % 2) := g1
    have hn : ¬ nI (2 * q + b % 2) = -1 := fun hx => by
      have h7 := nI_pos (n := 2 * q + b % 2) (by omega)
      rw [hx] at h7
      exact h7 (by decide)
    refine key (fun j => M.1 1 (32 * q + (2 * b + j))) _ (va_cpy (S.1 2) (S.1 2) (2 * (2 * q + b % 2)) (2 * (2 * p + b % 2)) 2) ?_ ?_ (fun j hj => pk_cpy_out (by omega)) (fun j hj => ?_)
    · rw [g2]
      unfold mCw mCw1
      rw [if_neg (nI_pos (by omega)), if_neg (nI_pos (by omega)), nI_clamp (by omega), zA_zA, zA_s, pk_un (by omega)]
    · unfold xFe
      rw [if_neg (by rw [d1]; exact hn), d1, nI_clamp (by omega)]
    · rw [pk_cpy_in (by omega) (by omega), show 2 * (2 * p + b % 2) + j - 2 * (2 * p + b % 2) = j by omega]
      have h8 := r2 q (2 * b + j) hq (by omega) (by rw [show (2 * b + j) / 2 = b by omega]; exact g3)
      rw [show (2 * b + j) / 2 = b by omega, show (2 * b + j) % 2 = j by omega] at h8
      exact h8.symm
theorem mSe_0 {M : SX} {p b : Nat} {v : Int32} (h : M.1 0 (16 * p + b) = v) : mSe M p b v = M := by
  unfold mSe
  rw [upd_id h, zA_id]
/-- the other holders are emptied -/
theorem ra_dr {N p b : Nat} (hb : b < 16) : ∀ (n k : Nat) (S M : SX), n + k ≤ 4 → RA N S M →
    RA N (xDrF p b n k S) (mEoF p b n k M) ∧ (xDrF p b n k S).1 2 = S.1 2 ∧ (xDrF p b n k S).1 1 = S.1 1 ∧ (mEoF p b n k M).1 1 = M.1 1 ∧ (xDrF p b n k S).1 0 (2 * p + b % 2) = S.1 0 (2 * p + b % 2) ∧ (xDrF p b n k S).2 = S.2 ∧ (mEoF p b n k M).2 = M.2 ∧
    (∀ q, k ≤ q → q < k + n → q ≠ p → (mEoF p b n k M).1 0 (16 * q + b) = 0) ∧ Sub M (mEoF p b n k M) ∧ (mEoF p b n k M).1 0 (16 * p + b) = M.1 0 (16 * p + b) := by
  intro n
  induction n with
  | zero => exact fun k S M _ h => ⟨h, rfl, rfl, rfl, rfl, rfl, rfl, fun q h1 h2 => absurd h2 (by omega), Sub.rf M, rfl⟩
  | succ n ih =>
    intro k S M hk h
    show RA N (xDrF p b n (k + 1) (xDr1 p b k S)) (mEoF p b n (k + 1) (if k = p then M else mSe M k b 0)) ∧ (xDrF p b n (k + 1) (xDr1 p b k S)).1 2 = S.1 2 ∧ (xDrF p b n (k + 1) (xDr1 p b k S)).1 1 = S.1 1 ∧ (mEoF p b n (k + 1) (if k = p then M else mSe M k b 0)).1 1 = M.1 1 ∧ (xDrF p b n (k + 1) (xDr1 p b k S)).1 0 (2 * p + b % 2) = S.1 0 (2 * p + b % 2) ∧ (xDrF p b n (k + 1) (xDr1 p b k S)).2 = S.2 ∧ (mEoF p b n (k + 1) (if k = p then M else mSe M k b 0)).2 = M.2 ∧
      (∀ q, k ≤ q → q < k + (n + 1) → q ≠ p → (mEoF p b n (k + 1) (if k = p then M else mSe M k b 0)).1 0 (16 * q + b) = 0) ∧ Sub M (mEoF p b n (k + 1) (if k = p then M else mSe M k b 0)) ∧ (mEoF p b n (k + 1) (if k = p then M else mSe M k b 0)).1 0 (16 * p + b) = M.1 0 (16 * p + b)
    by_cases e : k = p
    · have e1 : xDr1 p b k S = S := by simp [xDr1, e]
      rw [e1, if_pos e]
      obtain ⟨a1, a2, a2', a3, a4, a5, a6, a7, a8, a9⟩ := ih (k + 1) S M (by omega) h
      exact ⟨a1, a2, a2', a3, a4, a5, a6, fun q h1 h2 h3 => a7 q (by omega) (by omega) h3, a8, a9⟩
    · rw [if_neg e]
      by_cases hh : xHo S k b = true
      · have e1 : xDr1 p b k S = zA S 0 (upd (S.1 0) (2 * k + b % 2) 0) := by simp [xDr1, e, hh]
        rw [e1]
        obtain ⟨a1, a2, a2', a3, a4, a5, a6, a7, a8, a9⟩ := ih (k + 1) (zA S 0 (upd (S.1 0) (2 * k + b % 2) 0)) (mSe M k b 0) (by omega) (ra_set h (by omega) hb hh (Or.inl rfl))
        refine ⟨a1, a2, a2', a3, a4.trans ?_, a5, a6, fun q h1 h2 h3 => ?_, Sub.tr (sub_mSe M k b) a8, a9.trans ?_⟩
        · show upd (S.1 0) (2 * k + b % 2) 0 (2 * p + b % 2) = _
          rw [pk_un (by omega)]
        · by_cases e2 : q = k
          · rcases a8.2 (16 * q + b) with g | g
            · exact g
            · rw [g, e2]
              show upd (M.1 0) (16 * k + b) 0 (16 * k + b) = 0
              rw [pk_us]
          · exact a7 q (by omega) (by omega) h3
        · show upd (M.1 0) (16 * k + b) 0 (16 * p + b) = _
          rw [pk_un (by omega)]
      · have e1 : xDr1 p b k S = S := by simp [xDr1, e, Bool.eq_false_iff.mpr hh]
        have hz : M.1 0 (16 * k + b) = 0 := by rw [h.1 k b (by omega) hb, if_neg hh]
        rw [e1, mSe_0 hz]
        obtain ⟨a1, a2, a2', a3, a4, a5, a6, a7, a8, a9⟩ := ih (k + 1) S M (by omega) h
        refine ⟨a1, a2, a2', a3, a4, a5, a6, fun q h1 h2 h3 => ?_, a8, a9⟩
        by_cases e2 : q = k
        · rcases a8.2 (16 * q + b) with g | g
          · exact g
          · rw [g, e2, hz]
        · exact a7 q (by omega) (by omega) h3
/-- the line is filled -/
theorem ra_fin {N : Nat} {S M : SX} (h : RA N S M) {p b : Nat} (hp : p < 4) (hb : b < 16) (he : S.1 0 (2 * p + b % 2) = 0) (hw : ∀ j, j < 2 → M.1 1 (32 * p + (2 * b + j)) = S.1 2 (2 * (2 * p + b % 2) + j)) {v : Int32} (hv : st5 v) (hv0 : ¬ v = 0) :
    RA N (xLoE (S, v) (2 * p + b % 2) b) (mSe M p b v) ∧ xHo (xLoE (S, v) (2 * p + b % 2) b) p b = true := by
  obtain ⟨r1, r2, r3, r4, r5, r6, r7, r8, r9⟩ := h
  have g0 : (xLoE (S, v) (2 * p + b % 2) b).1 0 = upd (S.1 0) (2 * p + b % 2) v := rfl
  have g1 : (xLoE (S, v) (2 * p + b % 2) b).1 1 = upd (S.1 1) (2 * p + b % 2) (nI b) := rfl
  have g2 : (xLoE (S, v) (2 * p + b % 2) b).1 2 = S.1 2 := rfl
  have gm : (mSe M p b v).1 0 = upd (M.1 0) (16 * p + b) v := rfl
  have gm1 : (mSe M p b v).1 1 = M.1 1 := rfl
  have hown : xHo (xLoE (S, v) (2 * p + b % 2) b) p b = true := xHo_t.mpr ⟨by rw [g0, pk_us]; exact hv0, by rw [g1, pk_us]⟩
  refine ⟨⟨?_, ?_, ?_, ?_, r5, r6, r7, r8, r9⟩, hown⟩
  · intro q c hq hc
    rw [gm]
    by_cases e : 2 * q + c % 2 = 2 * p + b % 2
    · obtain rfl : q = p := by omega
      by_cases ec : c = b
      · subst ec
        rw [pk_us, if_pos hown, g0, pk_us]
      · have hne : ¬ xHo (xLoE (S, v) (2 * q + b % 2) b) q c = true := fun hx => by
          have h2 := (xHo_t.mp hx).2
          rw [g1, e, pk_us] at h2
          exact ec (nI_ij (by omega) (by omega) h2).symm
        rw [pk_un (by omega), r1 q c hq hc, if_neg hne, if_neg]
        intro hx
        have h2 := (xHo_t.mp hx).1
        rw [e] at h2
        exact h2 he
    · rw [pk_un (by omega), r1 q c hq hc, xHo_c (S := S) (T := xLoE (S, v) (2 * p + b % 2) b) (by rw [g0, pk_un e]) (by rw [g1, pk_un e]), g0, pk_un e]
  · intro q a hq ha hx
    rw [gm1, g2]
    by_cases e : 2 * q + a / 2 % 2 = 2 * p + b % 2
    · obtain rfl : q = p := by omega
      have h2 := (xHo_t.mp hx).2
      rw [g1, e, pk_us] at h2
      have e3 : a / 2 = b := (nI_ij (by omega) (by omega) h2).symm
      have h5 := hw (a % 2) (by omega)
      rw [show 2 * b + a % 2 = a by omega] at h5
      rw [h5, e3]
    · refine r2 q a hq ha ?_
      rw [← hx]
      exact (xHo_c (S := S) (T := xLoE (S, v) (2 * p + b % 2) b) (by rw [g0, pk_un e]) (by rw [g1, pk_un e])).symm
  · intro i hi
    by_cases e : i = 2 * p + b % 2
    · exact ⟨b, hb, by rw [g1, e, pk_us], fun _ => by omega⟩
    · obtain ⟨c, hc, e1, e2⟩ := r3 i hi
      exact ⟨c, hc, by rw [g1, pk_un e]; exact e1, fun hx => e2 (by rw [g0, pk_un e] at hx; exact hx)⟩
  · intro i hi
    rw [g0]
    by_cases e : i = 2 * p + b % 2
    · rw [e, pk_us]
      exact hv
    · rw [pk_un e]
      exact r4 i hi
/-- a word of a held line -/
theorem ra_word {N : Nat} {S M : SX} (h : RA N S M) {p a : Nat} (hp : p < 4) (ha : a < 32) (hh : xHo S p (a / 2) = true) (w : Int32) :
    RA N (zA S 2 (upd (S.1 2) (2 * (2 * p + a / 2 % 2) + a % 2) w)) (zA M 1 (upd (M.1 1) (32 * p + a) w)) := by
  obtain ⟨r1, r2, r3, r4, r5, r6, r7, r8, r9⟩ := h
  refine ⟨r1, ?_, r3, r4, r5, r6, r7, r8, r9⟩
  intro q c hq hc hx
  have hx' : xHo S q (c / 2) = true := hx
  show upd (M.1 1) (32 * p + a) w (32 * q + c) = upd (S.1 2) (2 * (2 * p + a / 2 % 2) + a % 2) w (2 * (2 * q + c / 2 % 2) + c % 2)
  by_cases e : 32 * q + c = 32 * p + a
  · obtain rfl : q = p := by omega
    obtain rfl : c = a := by omega
    rw [pk_us, pk_us]
  · rw [pk_un e, pk_un (fun e2 => ?_)]
    · exact r2 q c hq hc hx'
    · have e3 : 2 * q + c / 2 % 2 = 2 * p + a / 2 % 2 := by omega
      have h1 := (xHo_t.mp hx').2
      have h2 := (xHo_t.mp hh).2
      rw [e3, h2] at h1
      have e4 := nI_ij (by omega) (by omega) h1
      omega
