/-! ARITHMETIC: ints that don't overflow, as longs; bounds of the answers -/
theorem wa_bm {x : Int} (h1 : -2147483648 ≤ x) (h2 : x < 2147483648) : x.bmod (2 ^ 32) = x := by
  refine Int.bmod_eq_of_le_mul_two ?_ ?_
  · have : ((2 ^ 32 : Nat) : Int) = 4294967296 := by decide
    omega
  · have : ((2 ^ 32 : Nat) : Int) = 4294967296 := by decide
    omega
theorem wa_bm6 {x : Int} (h1 : -2147483648 ≤ x) (h2 : x < 2147483648) : x.bmod (2 ^ 64) = x := by
  refine Int.bmod_eq_of_le_mul_two ?_ ?_
  · have : ((2 ^ 64 : Nat) : Int) = 18446744073709551616 := by decide
    omega
  · have : ((2 ^ 64 : Nat) : Int) = 18446744073709551616 := by decide
    omega
theorem wa_add {a b : Int32} (h1 : -2147483648 ≤ a.toInt + b.toInt) (h2 : a.toInt + b.toInt < 2147483648) : (a + b).toInt = a.toInt + b.toInt := by rw [Int32.toInt_add, wa_bm h1 h2]
theorem wa_sub {a b : Int32} (h1 : -2147483648 ≤ a.toInt - b.toInt) (h2 : a.toInt - b.toInt < 2147483648) : (a - b).toInt = a.toInt - b.toInt := by rw [Int32.toInt_sub, wa_bm h1 h2]
theorem wa_mul {a b : Int32} (h1 : -2147483648 ≤ a.toInt * b.toInt) (h2 : a.toInt * b.toInt < 2147483648) : (a * b).toInt = a.toInt * b.toInt := by rw [Int32.toInt_mul, wa_bm h1 h2]
theorem wa_add6 {a b : Int64} (h1 : -2147483648 ≤ a.toInt + b.toInt) (h2 : a.toInt + b.toInt < 2147483648) : (a + b).toInt = a.toInt + b.toInt := by rw [Int64.toInt_add, wa_bm6 h1 h2]
theorem wa_sub6 {a b : Int64} (h1 : -2147483648 ≤ a.toInt - b.toInt) (h2 : a.toInt - b.toInt < 2147483648) : (a - b).toInt = a.toInt - b.toInt := by rw [Int64.toInt_sub, wa_bm6 h1 h2]
theorem wa_mul6 {a b : Int64} (h1 : -2147483648 ≤ a.toInt * b.toInt) (h2 : a.toInt * b.toInt < 2147483648) : (a * b).toInt = a.toInt * b.toInt := by rw [Int64.toInt_mul, wa_bm6 h1 h2]
theorem wa_addL {a b : Int32} (h1 : -2147483648 ≤ a.toInt + b.toInt) (h2 : a.toInt + b.toInt < 2147483648) : (a + b).toInt64 = a.toInt64 + b.toInt64 := by
  apply Int64.toInt_inj.mp
  rw [Int32.toInt_toInt64, wa_add h1 h2, wa_add6 (by rw [Int32.toInt_toInt64, Int32.toInt_toInt64]; exact h1) (by rw [Int32.toInt_toInt64, Int32.toInt_toInt64]; exact h2), Int32.toInt_toInt64, Int32.toInt_toInt64]
theorem wa_mulL {a b : Int32} (h1 : -2147483648 ≤ a.toInt * b.toInt) (h2 : a.toInt * b.toInt < 2147483648) : (a * b).toInt64 = a.toInt64 * b.toInt64 := by
  apply Int64.toInt_inj.mp
  rw [Int32.toInt_toInt64, wa_mul h1 h2, wa_mul6 (by rw [Int32.toInt_toInt64, Int32.toInt_toInt64]; exact h1) (by rw [Int32.toInt_toInt64, Int32.toInt_toInt64]; exact h2), Int32.toInt_toInt64, Int32.toInt_toInt64]
theorem wa_inj {a b : Int32} (h : a.toInt64 = b.toInt64) : a = b := by
  apply Int32.toInt_inj.mp
  rw [← Int32.toInt_toInt64, h, Int32.toInt_toInt64]
/-- the numbers that CLIMB and HEED are done with -/
def wa_B (n : Int32) (b : Int) : Prop := 0 ≤ n.toInt ∧ n.toInt ≤ b
theorem wa_i2 : (2 : Int32).toInt = 2 := by decide
theorem wa_i3 : (3 : Int32).toInt = 3 := by decide
theorem wa_i31 : (31 : Int32).toInt = 31 := by decide
theorem wa_i1000 : (1000 : Int32).toInt = 1000 := by decide
theorem wa_i1 : (1 : Int32).toInt = 1 := by decide
theorem wa_im1 : (-1 : Int32).toInt = -1 := by decide
theorem wa_half {n : Int32} {b : Int} (h : wa_B n b) : wa_B (n / 2) b := by
  obtain ⟨h1, h2⟩ := h
  have e : (n / 2).toInt = n.toInt / 2 := by
    rw [Int32.toInt_div_of_ne_right n 2 (by decide), wa_i2, Int.tdiv_eq_ediv_of_nonneg h1]
  exact ⟨by rw [e]; omega, by rw [e]; omega⟩
theorem wa_succ {n : Int32} {b : Int} (h : wa_B n b) (hb : b ≤ 100000) : wa_B (n + 1) (b + 1) := by
  obtain ⟨h1, h2⟩ := h
  have e : (n + 1).toInt = n.toInt + 1 := by rw [wa_add (by rw [wa_i1]; omega) (by rw [wa_i1]; omega), wa_i1]
  exact ⟨by rw [e]; omega, by rw [e]; omega⟩
theorem wa_up {n : Int32} {b c : Int} (h : wa_B n b) (hb : b ≤ c) : wa_B n c := ⟨h.1, Int.le_trans h.2 hb⟩
theorem wa_2n {n : Int32} (h : wa_B n 10001) : (2 * n).toInt = 2 * n.toInt ∧ (2 * n).toInt64 = 2 * n.toInt64 := by
  obtain ⟨h1, h2⟩ := h
  exact ⟨by rw [wa_mul (by rw [wa_i2]; omega) (by rw [wa_i2]; omega), wa_i2], wa_mulL (by rw [wa_i2]; omega) (by rw [wa_i2]; omega)⟩
theorem wa_3n {n : Int32} (h : wa_B n 10001) : (3 * n).toInt = 3 * n.toInt ∧ (3 * n).toInt64 = 3 * n.toInt64 := by
  obtain ⟨h1, h2⟩ := h
  exact ⟨by rw [wa_mul (by rw [wa_i3]; omega) (by rw [wa_i3]; omega), wa_i3], wa_mulL (by rw [wa_i3]; omega) (by rw [wa_i3]; omega)⟩
theorem wa_soulClimb {n : Int32} (h : wa_B n 10001) (σ : wk_St) (k : Nat) : -1 ≤ (wk_soulClimb σ k n).1.toInt ∧ (wk_soulClimb σ k n).1.toInt ≤ 30003 := by
  have e := (wa_2n h).1
  obtain ⟨h1, h2⟩ := h
  unfold wk_soulClimb wk_soulClimb1
  split
  · dsimp only; rw [e]; omega
  · dsimp only; rw [wa_im1]; omega
theorem wa_sailorClimb {n : Int32} (h : wa_B n 10001) (σ : wk_St) (k : Nat) : -1 ≤ (wk_sailorClimb σ k n).1.toInt ∧ (wk_sailorClimb σ k n).1.toInt ≤ 30003 := by
  have e := (wa_3n h).1
  unfold wk_sailorClimb wk_sailorClimb1
  split
  · obtain ⟨h1, h2⟩ := h
    dsimp only; rw [e]; omega
  · exact wa_soulClimb h _ _
theorem wa_mate1 {n : Int32} (h : wa_B n 10001) (σ : wk_St) (k : Nat) : ((wk_sailorClimb σ k n).1 + 1).toInt64 = (wk_sailorClimb σ k n).1.toInt64 + 1 := by
  have := wa_sailorClimb h σ k
  exact wa_addL (by rw [wa_i1]; omega) (by rw [wa_i1]; omega)
theorem wa_31 {n : Int32} {k : Nat} (h : wa_B n 10001) (hk : k < 12) : (31 * n + nI k).toInt = 31 * n.toInt + k ∧ (31 * n + nI k).toInt64 = 31 * n.toInt64 + (nI k).toInt64 := by
  obtain ⟨h1, h2⟩ := h
  have e1 : (31 * n).toInt = 31 * n.toInt := by rw [wa_mul (by rw [wa_i31]; omega) (by rw [wa_i31]; omega), wa_i31]
  have ek : (nI k).toInt = (k : Int) := nI_toInt (by omega)
  have e2 : (31 * n).toInt64 = 31 * n.toInt64 := wa_mulL (by rw [wa_i31]; omega) (by rw [wa_i31]; omega)
  exact ⟨by rw [wa_add (by rw [e1, ek]; omega) (by rw [e1, ek]; omega), e1, ek], by rw [wa_addL (by rw [e1, ek]; omega) (by rw [e1, ek]; omega), e2]⟩
theorem wa_rem {x : Int32} (h1 : 0 ≤ x.toInt) (h2 : x.toInt < 1000000) : (x - x / 1000 * 1000).toInt = x.toInt % 1000 ∧ (x - x / 1000 * 1000).toInt64 = x.toInt64 - x.toInt64 / 1000 * 1000 := by
  have e1 : (x / 1000).toInt = x.toInt / 1000 := by rw [Int32.toInt_div_of_ne_right x 1000 (by decide), wa_i1000, Int.tdiv_eq_ediv_of_nonneg h1]
  have e2 : (x / 1000 * 1000).toInt = x.toInt / 1000 * 1000 := by rw [wa_mul (by rw [e1, wa_i1000]; omega) (by rw [e1, wa_i1000]; omega), e1, wa_i1000]
  have e3 : (x - x / 1000 * 1000).toInt = x.toInt - x.toInt / 1000 * 1000 := by rw [wa_sub (by rw [e2]; omega) (by rw [e2]; omega), e2]
  refine ⟨by rw [e3]; omega, ?_⟩
  have l1000 : (1000 : Int64).toInt = 1000 := by decide
  have f1 : (x.toInt64 / 1000).toInt = x.toInt / 1000 := by rw [Int64.toInt_div_of_ne_right _ 1000 (by decide), l1000, Int32.toInt_toInt64, Int.tdiv_eq_ediv_of_nonneg h1]
  have f2 : (x.toInt64 / 1000 * 1000).toInt = x.toInt / 1000 * 1000 := by rw [wa_mul6 (by rw [f1, l1000]; omega) (by rw [f1, l1000]; omega), f1, l1000]
  have f3 : (x.toInt64 - x.toInt64 / 1000 * 1000).toInt = x.toInt - x.toInt / 1000 * 1000 := by rw [wa_sub6 (by rw [f2, Int32.toInt_toInt64]; omega) (by rw [f2, Int32.toInt_toInt64]; omega), f2, Int32.toInt_toInt64]
  apply Int64.toInt_inj.mp
  rw [Int32.toInt_toInt64, e3, f3]
theorem wa_soulHeed {n : Int32} {k : Nat} (h : wa_B n 10001) (hk : k < 12) (σ : wk_St) : 0 ≤ (wk_soulHeed σ k n).1.toInt ∧ (wk_soulHeed σ k n).1.toInt ≤ 999 ∧ (wk_soulHeed σ k n).1.toInt64 = (31 * n.toInt64 + (nI k).toInt64) - (31 * n.toInt64 + (nI k).toInt64) / 1000 * 1000 := by
  obtain ⟨e1, e2⟩ := wa_31 h hk
  obtain ⟨h1, h2⟩ := h
  have q := wa_rem (x := 31 * n + nI k) (by rw [e1]; omega) (by rw [e1]; omega)
  rw [e2] at q
  have e3 : (wk_soulHeed σ k n).1 = (31 * n + nI k) - (31 * n + nI k) / 1000 * 1000 := rfl
  rw [e3]
  exact ⟨by rw [q.1]; omega, by rw [q.1]; omega, q.2⟩
theorem wa_topHeed {n : Int32} {k : Nat} (h : wa_B n 10001) (hk : k < 12) (σ : wk_St) : 0 ≤ (wk_topHeed σ k n).1.toInt ∧ (wk_topHeed σ k n).1.toInt ≤ 10001 := by
  unfold wk_topHeed wk_topHeed1
  have q := wa_soulHeed h hk (wk_note σ 23)
  split
  · dsimp only
    rw [wa_add (by rw [wa_i1000]; omega) (by rw [wa_i1000]; omega), wa_i1000]
    omega
  · exact ⟨h.1, h.2⟩
theorem wa_top1 {n : Int32} {k : Nat} (h : wa_B n 10001) (hk : k < 12) (σ : wk_St) : ((wk_soulHeed σ k n).1 + 1000).toInt64 = (wk_soulHeed σ k n).1.toInt64 + 1000 := by
  have q := wa_soulHeed h hk σ
  exact wa_addL (by rw [wa_i1000]; omega) (by rw [wa_i1000]; omega)
theorem wa_loHeed {n : Int32} {k : Nat} (h : wa_B n 10001) (hk : k < 12) (r : Nat) (σ : wk_St) : 0 ≤ (wk_loHeed r σ k n).1.toInt ∧ (wk_loHeed r σ k n).1.toInt ≤ 10001 := by
  unfold wk_loHeed
  have q := wa_soulHeed h hk σ
  split
  · omega
  · omega
  · exact wa_topHeed h hk σ
theorem wa_heedL {n : Int32} (h : wa_B n 10001) (q : Int32 × wk_St) (hq : 0 ≤ q.1.toInt ∧ q.1.toInt ≤ 10001) : ∀ i : Nat, i ≤ 12 → 0 ≤ (wk_heedL n q i).1.toInt ∧ (wk_heedL n q i).1.toInt ≤ 10001 * (i + 1 : Nat)
  | 0, _ => by
    have e : (wk_heedL n q 0).1 = q.1 := rfl
    rw [e]
    omega
  | i + 1, hi => by
    have ih := wa_heedL h q hq i (by omega)
    unfold wk_heedL
    split
    · have b := wa_loHeed h (show i < 12 by omega) (wk_rk (wk_heedL n q i).2 i) (wk_heedL n q i).2
      dsimp only
      rw [wa_add (by omega) (by omega)]
      omega
    · omega
theorem wa_heedS {n : Int32} (h : wa_B n 10001) (q : Int32 × wk_St) (hq : 0 ≤ q.1.toInt ∧ q.1.toInt ≤ 10001) {i : Nat} (hi : i < 12) (r : Nat) (τ : wk_St) : ((wk_heedL n q i).1 + (wk_loHeed r τ i n).1).toInt64 = (wk_heedL n q i).1.toInt64 + (wk_loHeed r τ i n).1.toInt64 := by
  have a := wa_heedL h q hq i (by omega)
  have b := wa_loHeed h hi r τ
  exact wa_addL (by omega) (by omega)
theorem wa_cook {n : Int32} {k : Nat} (h : wa_B n 10001) (hk : k < 12) (σ : wk_St) : (-(wk_soulHeed σ k n).1).toInt64 = -(wk_soulHeed σ k n).1.toInt64 := by
  have q := wa_soulHeed h hk σ
  refine Int32.toInt64_neg_of_ne (fun e => ?_)
  rw [e] at q
  exact absurd q.1 (by decide)
/-- how many members are of ranks 0 .. 2 -/
def wk_cnt (σ : wk_St) : Nat → Nat
  | 0 => 0
  | i + 1 => if wk_rk σ i ≤ 2 then wk_cnt σ i + 1 else wk_cnt σ i
theorem wk_cnt_le (σ : wk_St) : ∀ i, wk_cnt σ i ≤ i
  | 0 => Nat.le_refl _
  | i + 1 => by
    have := wk_cnt_le σ i
    unfold wk_cnt
    split <;> omega
theorem wk_addN_cnt (σ : wk_St) (n v : Int64) : ∀ i, wk_addN σ n v i = v + n * lN (wk_cnt σ i)
  | 0 => by
    have e : lN (wk_cnt σ 0) = 0 := (by decide : lN 0 = 0)
    rw [e]
    simp [wk_addN]
  | i + 1 => by
    have ih := wk_addN_cnt σ n v i
    unfold wk_addN wk_cnt
    split
    · rw [ih, ← lN_1, Int64.mul_add, Int64.mul_one, Int64.add_assoc]
    · exact ih
