/-! WHAT A STATE IS, AND WHAT EACH METHOD DOES TO IT: one value for the class and for the reference.
(n, rank, skill, weary, purse, lineDuty, lineNumber, lineLow, lineHigh, kept, noted) -/
abbrev wk_St : Type := Nat × (Nat → Nat) × (Nat → Int32) × (Nat → Int32) × (Nat → Int64) × (Nat → Int32) × (Nat → Int32) × (Nat → Int32) × (Nat → Int32) × (Nat → Int32) × Nat
def wk_n (σ : wk_St) : Nat := σ.1
def wk_rk (σ : wk_St) : Nat → Nat := σ.2.1
def wk_sk (σ : wk_St) : Nat → Int32 := σ.2.2.1
def wk_we (σ : wk_St) : Nat → Int32 := σ.2.2.2.1
def wk_pu (σ : wk_St) : Nat → Int64 := σ.2.2.2.2.1
def wk_ld (σ : wk_St) : Nat → Int32 := σ.2.2.2.2.2.1
def wk_ln (σ : wk_St) : Nat → Int32 := σ.2.2.2.2.2.2.1
def wk_ll (σ : wk_St) : Nat → Int32 := σ.2.2.2.2.2.2.2.1
def wk_lh (σ : wk_St) : Nat → Int32 := σ.2.2.2.2.2.2.2.2.1
def wk_kp (σ : wk_St) : Nat → Int32 := σ.2.2.2.2.2.2.2.2.2.1
def wk_nt (σ : wk_St) : Nat := σ.2.2.2.2.2.2.2.2.2.2
def wk_sRk (σ : wk_St) (f : Nat → Nat) : wk_St := (wk_n σ, f, wk_sk σ, wk_we σ, wk_pu σ, wk_ld σ, wk_ln σ, wk_ll σ, wk_lh σ, wk_kp σ, wk_nt σ)
def wk_sWe (σ : wk_St) (f : Nat → Int32) : wk_St := (wk_n σ, wk_rk σ, wk_sk σ, f, wk_pu σ, wk_ld σ, wk_ln σ, wk_ll σ, wk_lh σ, wk_kp σ, wk_nt σ)
def wk_sPu (σ : wk_St) (f : Nat → Int64) : wk_St := (wk_n σ, wk_rk σ, wk_sk σ, wk_we σ, f, wk_ld σ, wk_ln σ, wk_ll σ, wk_lh σ, wk_kp σ, wk_nt σ)
def wk_sLd (σ : wk_St) (f : Nat → Int32) : wk_St := (wk_n σ, wk_rk σ, wk_sk σ, wk_we σ, wk_pu σ, f, wk_ln σ, wk_ll σ, wk_lh σ, wk_kp σ, wk_nt σ)
def wk_sLn (σ : wk_St) (f : Nat → Int32) : wk_St := (wk_n σ, wk_rk σ, wk_sk σ, wk_we σ, wk_pu σ, wk_ld σ, f, wk_ll σ, wk_lh σ, wk_kp σ, wk_nt σ)
def wk_sLl (σ : wk_St) (f : Nat → Int32) : wk_St := (wk_n σ, wk_rk σ, wk_sk σ, wk_we σ, wk_pu σ, wk_ld σ, wk_ln σ, f, wk_lh σ, wk_kp σ, wk_nt σ)
def wk_sLh (σ : wk_St) (f : Nat → Int32) : wk_St := (wk_n σ, wk_rk σ, wk_sk σ, wk_we σ, wk_pu σ, wk_ld σ, wk_ln σ, wk_ll σ, f, wk_kp σ, wk_nt σ)
def wk_sKp (σ : wk_St) (f : Nat → Int32) : wk_St := (wk_n σ, wk_rk σ, wk_sk σ, wk_we σ, wk_pu σ, wk_ld σ, wk_ln σ, wk_ll σ, wk_lh σ, f, wk_nt σ)
def wk_sNt (σ : wk_St) (c : Nat) : wk_St := (wk_n σ, wk_rk σ, wk_sk σ, wk_we σ, wk_pu σ, wk_ld σ, wk_ln σ, wk_ll σ, wk_lh σ, wk_kp σ, c)
def wk_new : wk_St := (0, fun _ => 0, fun _ => 0, fun _ => 0, fun _ => 0, fun j => if j < 8 then -1 else 0, fun _ => 0, fun _ => 0, fun _ => 0, fun _ => 0, 0)
-- notes, weariness
def wk_note (σ : wk_St) (v : Int32) : wk_St := wk_sNt (wk_sKp σ (if wk_nt σ < 64 then upd (wk_kp σ) (wk_nt σ) v else wk_kp σ)) (wk_nt σ + 1)
def wk_clamp (w : Int32) : Int32 := if 0 ≤ w then (if w ≤ 1000 then w else 1000) else 0
def wk_tire (σ : wk_St) (k : Nat) (x : Int32) : wk_St := wk_sWe σ (upd (wk_we σ) k (wk_clamp (wk_we σ k + x)))
def wk_pos (v : Int64) : Int64 := if 0 ≤ v then v else 0
-- TOIL
def wk_soulToil1 (σ : wk_St) (k : Nat) (n : Int32) : Int64 × wk_St := (wk_pos (n.toInt64 * (10 + wk_sk σ k).toInt64 - (wk_we σ k).toInt64), wk_tire σ k n)
def wk_soulToil (σ : wk_St) (k : Nat) (n : Int32) : Int64 × wk_St := wk_soulToil1 (wk_note σ 80) k n
def wk_topToil1 (σ : wk_St) (k : Nat) (n : Int32) : Int64 × wk_St := if wk_we σ k ≤ 500 then ((wk_soulToil σ k n).1 + 3 * n.toInt64, (wk_soulToil σ k n).2) else (0, σ)
def wk_topToil (σ : wk_St) (k : Nat) (n : Int32) : Int64 × wk_St := wk_topToil1 (wk_note σ 20) k n
def wk_mateToil1 (σ : wk_St) (k : Nat) (n : Int32) : Int64 × wk_St := ((wk_topToil σ k (n / 2)).1 + (wk_topToil (wk_topToil σ k (n / 2)).2 k (n - n / 2)).1, (wk_topToil (wk_topToil σ k (n / 2)).2 k (n - n / 2)).2)
def wk_mateToil (σ : wk_St) (k : Nat) (n : Int32) : Int64 × wk_St := wk_mateToil1 (wk_note σ 40) k n
def wk_masterToil1 (σ : wk_St) (k : Nat) (n : Int32) : Int64 × wk_St := if 40 < n then (4 * (wk_mateToil σ k (n / 4)).1, (wk_mateToil σ k (n / 4)).2) else wk_mateToil σ k n
def wk_masterToil (σ : wk_St) (k : Nat) (n : Int32) : Int64 × wk_St := wk_masterToil1 (wk_note σ 50) k n
def wk_cookToil1 (σ : wk_St) (k : Nat) (n : Int32) : Int64 × wk_St := ((wk_soulToil σ k n).1, wk_tire (wk_soulToil σ k n).2 k (-(n / 2)))
def wk_cookToil (σ : wk_St) (k : Nat) (n : Int32) : Int64 × wk_St := wk_cookToil1 (wk_note σ 60) k n
def wk_toilR (r : Nat) (σ : wk_St) (k : Nat) (n : Int32) : Int64 × wk_St := match r with
  | 0 => wk_soulToil σ k n
  | 1 => wk_soulToil σ k n
  | 2 => wk_topToil σ k n
  | 3 => wk_topToil σ k n
  | 4 => wk_mateToil σ k n
  | 5 => wk_masterToil σ k n
  | _ => wk_cookToil σ k n
-- PAY
def wk_handPay1 (σ : wk_St) (k : Nat) (n : Int32) : Int64 × wk_St := (n.toInt64 * (5 + wk_sk σ k / 10).toInt64, σ)
def wk_handPay (σ : wk_St) (k : Nat) (n : Int32) : Int64 × wk_St := wk_handPay1 (wk_note σ 1) k n
def wk_addN (σ : wk_St) (n v : Int64) : Nat → Int64
  | 0 => v
  | i + 1 => if wk_rk σ i ≤ 2 then wk_addN σ n v i + n else wk_addN σ n v i
def wk_bosunPay1 (σ : wk_St) (k : Nat) (n : Int32) : Int64 × wk_St := (wk_addN (wk_handPay σ k n).2 n.toInt64 ((wk_handPay σ k n).1 + 2 * n.toInt64) (wk_n (wk_handPay σ k n).2), (wk_handPay σ k n).2)
def wk_bosunPay (σ : wk_St) (k : Nat) (n : Int32) : Int64 × wk_St := wk_bosunPay1 (wk_note σ 31) k n
def wk_masterPay1 (σ : wk_St) (k : Nat) (n : Int32) : Int64 × wk_St := (if 300 ≤ wk_we (wk_bosunPay σ k n).2 k then (wk_bosunPay σ k n).1 else 2 * (wk_bosunPay σ k n).1, (wk_bosunPay σ k n).2)
def wk_masterPay (σ : wk_St) (k : Nat) (n : Int32) : Int64 × wk_St := wk_masterPay1 (wk_note σ 51) k n
def wk_add7 (σ : wk_St) (v : Int64) : Nat → Int64
  | 0 => v
  | i + 1 => if wk_we σ i ≤ 500 then wk_add7 σ v i else wk_add7 σ v i + 7
def wk_surgPay1 (σ : wk_St) (k : Nat) (n : Int32) : Int64 × wk_St := (wk_add7 (wk_handPay σ k n).2 (wk_handPay σ k n).1 (wk_n (wk_handPay σ k n).2), (wk_handPay σ k n).2)
def wk_surgPay (σ : wk_St) (k : Nat) (n : Int32) : Int64 × wk_St := wk_surgPay1 (wk_note σ 71) k n
def wk_payR (r : Nat) (σ : wk_St) (k : Nat) (n : Int32) : Int64 × wk_St := match r with
  | 0 => wk_handPay σ k n
  | 1 => wk_handPay σ k n
  | 2 => wk_handPay σ k n
  | 3 => wk_bosunPay σ k n
  | 4 => wk_bosunPay σ k n
  | 5 => wk_masterPay σ k n
  | 6 => wk_handPay σ k n
  | _ => wk_surgPay σ k n
-- CLIMB
def wk_soulClimb1 (σ : wk_St) (k : Nat) (n : Int32) : Int32 × wk_St := if n ≤ 10 + wk_sk σ k then (2 * n, wk_tire σ k n) else (-1, σ)
def wk_soulClimb (σ : wk_St) (k : Nat) (n : Int32) : Int32 × wk_St := wk_soulClimb1 (wk_note σ 82) k n
def wk_sailorClimb1 (σ : wk_St) (k : Nat) (n : Int32) : Int32 × wk_St := if n ≤ 30 then (3 * n, wk_tire σ k (n / 2)) else wk_soulClimb σ k n
def wk_sailorClimb (σ : wk_St) (k : Nat) (n : Int32) : Int32 × wk_St := wk_sailorClimb1 (wk_note σ 12) k n
def wk_mateClimb1 (σ : wk_St) (k : Nat) (n : Int32) : Int32 × wk_St := (if (wk_sailorClimb σ k n).1 = -1 then -1 else (wk_sailorClimb σ k n).1 + 1, (wk_sailorClimb σ k n).2)
def wk_mateClimb (σ : wk_St) (k : Nat) (n : Int32) : Int32 × wk_St := wk_mateClimb1 (wk_note σ 42) k n
def wk_surgClimb (σ : wk_St) (k : Nat) (n : Int32) : Int32 × wk_St := wk_soulClimb (wk_note σ 72) k (n / 2)
def wk_climbR (r : Nat) (σ : wk_St) (k : Nat) (n : Int32) : Int32 × wk_St := match r with
  | 0 => wk_soulClimb σ k n
  | 1 => wk_sailorClimb σ k n
  | 2 => wk_sailorClimb σ k n
  | 3 => wk_sailorClimb σ k n
  | 4 => wk_mateClimb σ k n
  | 5 => wk_mateClimb σ k n
  | 6 => wk_soulClimb σ k n
  | _ => wk_surgClimb σ k n
-- HEED
def wk_soulHeed1 (σ : wk_St) (k : Nat) (n : Int32) : Int32 × wk_St := ((31 * n + nI k) - (31 * n + nI k) / 1000 * 1000, σ)
def wk_soulHeed (σ : wk_St) (k : Nat) (n : Int32) : Int32 × wk_St := wk_soulHeed1 (wk_note σ 83) k n
def wk_topHeed1 (σ : wk_St) (k : Nat) (n : Int32) : Int32 × wk_St := if n - n / 2 * 2 = 0 then ((wk_soulHeed σ k n).1 + 1000, (wk_soulHeed σ k n).2) else (n, σ)
def wk_topHeed (σ : wk_St) (k : Nat) (n : Int32) : Int32 × wk_St := wk_topHeed1 (wk_note σ 23) k n
def wk_loHeed (r : Nat) (σ : wk_St) (k : Nat) (n : Int32) : Int32 × wk_St := match r with
  | 0 => wk_soulHeed σ k n
  | 1 => wk_soulHeed σ k n
  | _ => wk_topHeed σ k n
def wk_heedL (n : Int32) (p : Int32 × wk_St) : Nat → Int32 × wk_St
  | 0 => p
  | i + 1 => if wk_rk (wk_heedL n p i).2 i ≤ 2 then ((wk_heedL n p i).1 + (wk_loHeed (wk_rk (wk_heedL n p i).2 i) (wk_heedL n p i).2 i n).1, (wk_loHeed (wk_rk (wk_heedL n p i).2 i) (wk_heedL n p i).2 i n).2) else wk_heedL n p i
def wk_bosunHeed1 (σ : wk_St) (k : Nat) (n : Int32) : Int32 × wk_St := wk_heedL n (wk_topHeed σ k n) (wk_n σ)
def wk_bosunHeed (σ : wk_St) (k : Nat) (n : Int32) : Int32 × wk_St := wk_bosunHeed1 (wk_note σ 33) k n
def wk_masterHeed1 (σ : wk_St) (k : Nat) (n : Int32) : Int32 × wk_St := if wk_we σ k < 700 then wk_bosunHeed σ k (n + 1) else (-5, σ)
def wk_masterHeed (σ : wk_St) (k : Nat) (n : Int32) : Int32 × wk_St := wk_masterHeed1 (wk_note σ 53) k n
def wk_cookHeed (σ : wk_St) (k : Nat) (n : Int32) : Int32 × wk_St := (-(wk_soulHeed (wk_note σ 63) k n).1, (wk_soulHeed (wk_note σ 63) k n).2)
def wk_heedR (r : Nat) (σ : wk_St) (k : Nat) (n : Int32) : Int32 × wk_St := match r with
  | 0 => wk_soulHeed σ k n
  | 1 => wk_soulHeed σ k n
  | 2 => wk_topHeed σ k n
  | 3 => wk_bosunHeed σ k n
  | 4 => wk_bosunHeed σ k n
  | 5 => wk_masterHeed σ k n
  | _ => wk_cookHeed σ k n
-- RACE
def wk_raceL (r : Nat) (k : Nat) (n : Int32) : Nat → Int32 → wk_St → Int32 × wk_St
  | 0, v, σ => (v, σ)
  | t + 1, v, σ => if (wk_climbR r σ k n).1 = -1 then (v, (wk_climbR r σ k n).2) else wk_raceL r k n t (v + (wk_climbR r σ k n).1) (wk_climbR r σ k n).2
def wk_raceR (r : Nat) (σ : wk_St) (k : Nat) (n m : Int32) : Int32 × wk_St := if r = 5 then (2 * (wk_raceL r k n (if 3 ≤ m then (3 : Int32) else m).toNatClampNeg 0 σ).1, (wk_raceL r k n (if 3 ≤ m then (3 : Int32) else m).toNatClampNeg 0 σ).2) else wk_raceL r k n m.toNatClampNeg 0 σ
-- a duty by its number
def wk_do (d : Int32) (σ : wk_St) (k : Nat) (n : Int32) : Int64 × wk_St :=
  if d = 0 then wk_toilR (wk_rk σ k) σ k n
  else if d = 1 then wk_payR (wk_rk σ k) σ k n
  else if d = 2 then ((wk_climbR (wk_rk σ k) σ k n).1.toInt64, (wk_climbR (wk_rk σ k) σ k n).2)
  else ((wk_heedR (wk_rk σ k) σ k n).1.toInt64, (wk_heedR (wk_rk σ k) σ k n).2)
def wk_gain (d : Int32) (k : Nat) (p : Int64 × wk_St) : wk_St := if d = 1 then wk_sPu p.2 (vp_updL (wk_pu p.2) k (wk_pu p.2 k + p.1)) else p.2
-- what is refused
def wk_bound (d : Int32) : Int32 := if d = 0 then 100 else if d = 1 then 1000 else if d = 2 then 200 else 9999
def wk_in (d n : Int32) : Prop := 0 ≤ n ∧ n ≤ wk_bound d
def wk_ok (σ : wk_St) (k : Int32) : Prop := 0 ≤ k ∧ k < nI (wk_n σ)
theorem wk_in_dec (d n : Int32) : wk_in d n ∨ ¬ wk_in d n := Classical.em _
-- the calls: what is answered, and the state behind it
noncomputable def wk_if {α : Type} (c : Prop) (a b : α) : α := @ite α c (Classical.propDecidable c) a b
theorem wk_ifT {α : Type} {c : Prop} {a b : α} (h : c) : wk_if c a b = a := by unfold wk_if; exact if_pos h
theorem wk_ifF {α : Type} {c : Prop} {a b : α} (h : ¬ c) : wk_if c a b = b := by unfold wk_if; exact if_neg h
def wk_add (σ : wk_St) (r s : Int32) : wk_St := (wk_n σ + 1, va_up (wk_rk σ) (wk_n σ) r.toNatClampNeg, upd (wk_sk σ) (wk_n σ) s, upd (wk_we σ) (wk_n σ) 0, vp_updL (wk_pu σ) (wk_n σ) 0, wk_ld σ, wk_ln σ, wk_ll σ, wk_lh σ, wk_kp σ, wk_nt σ)
noncomputable def wk_enlist (σ : wk_St) (r s : Int32) : Int32 × wk_St := wk_if ((0 ≤ r ∧ r ≤ 7) ∧ (0 ≤ s ∧ s ≤ 99) ∧ wk_n σ < 12) (nI (wk_n σ), wk_add σ r s) (-1000000, σ)
noncomputable def wk_promote (σ : wk_St) (k : Int32) : Int32 × wk_St := wk_if (wk_ok σ k ∧ wk_rk σ k.toNatClampNeg ≠ 5 ∧ wk_rk σ k.toNatClampNeg ≠ 7) (nI (wk_rk σ k.toNatClampNeg + 1), wk_sRk σ (va_up (wk_rk σ) k.toNatClampNeg (wk_rk σ k.toNatClampNeg + 1))) (-1000000, σ)
def wk_down (r : Nat) : Nat := if r = 6 then 0 else r - 1
noncomputable def wk_demote (σ : wk_St) (k : Int32) : Int32 × wk_St := wk_if (wk_ok σ k ∧ wk_rk σ k.toNatClampNeg ≠ 0) (nI (wk_down (wk_rk σ k.toNatClampNeg)), wk_sRk σ (va_up (wk_rk σ) k.toNatClampNeg (wk_down (wk_rk σ k.toNatClampNeg)))) (-1000000, σ)
def wk_fg (σ : wk_St) : wk_St := wk_sNt σ 0
noncomputable def wk_toil (σ : wk_St) (k n : Int32) : Int64 × wk_St := wk_if (wk_ok σ k ∧ wk_in 0 n) (wk_toilR (wk_rk σ k.toNatClampNeg) (wk_fg σ) k.toNatClampNeg n) (-1000000, σ)
noncomputable def wk_pay (σ : wk_St) (k n : Int32) : Int64 × wk_St := wk_if (wk_ok σ k ∧ wk_in 1 n) ((wk_payR (wk_rk σ k.toNatClampNeg) (wk_fg σ) k.toNatClampNeg n).1, wk_gain 1 k.toNatClampNeg (wk_payR (wk_rk σ k.toNatClampNeg) (wk_fg σ) k.toNatClampNeg n)) (-1000000, σ)
noncomputable def wk_climb (σ : wk_St) (k n : Int32) : Int32 × wk_St := wk_if (wk_ok σ k ∧ wk_in 2 n) (wk_climbR (wk_rk σ k.toNatClampNeg) (wk_fg σ) k.toNatClampNeg n) (-1000000, σ)
noncomputable def wk_heed (σ : wk_St) (k n : Int32) : Int32 × wk_St := wk_if (wk_ok σ k ∧ wk_in 3 n) (wk_heedR (wk_rk σ k.toNatClampNeg) (wk_fg σ) k.toNatClampNeg n) (-1000000, σ)
noncomputable def wk_race (σ : wk_St) (k n m : Int32) : Int32 × wk_St := wk_if (wk_ok σ k ∧ (2 ≤ wk_rk σ k.toNatClampNeg ∧ wk_rk σ k.toNatClampNeg ≤ 5) ∧ wk_in 2 n ∧ (0 ≤ m ∧ m ≤ 20)) (wk_raceR (wk_rk σ k.toNatClampNeg) (wk_fg σ) k.toNatClampNeg n m) (-1000000, σ)
noncomputable def wk_due (σ : wk_St) (k n x : Int32) : Int64 × wk_St := wk_if (wk_ok σ k ∧ 1 ≤ wk_rk σ k.toNatClampNeg ∧ wk_in 1 n ∧ 0 ≤ x) (wk_pos ((wk_payR (wk_rk σ k.toNatClampNeg) (wk_fg σ) k.toNatClampNeg n).1 - x.toInt64), (wk_payR (wk_rk σ k.toNatClampNeg) (wk_fg σ) k.toNatClampNeg n).2) (-1000000, σ)
def wk_feedL (k : Nat) (x : Int32) (σ : wk_St) : Nat → wk_St
  | 0 => σ
  | i + 1 => if i = k then wk_feedL k x σ i else wk_tire (wk_feedL k x σ i) i x
noncomputable def wk_feed (σ : wk_St) (k n : Int32) : Int32 × wk_St := wk_if (wk_ok σ k ∧ 6 ≤ wk_rk σ k.toNatClampNeg ∧ wk_in 0 n) (((wk_toilR (wk_rk σ k.toNatClampNeg) (wk_fg σ) k.toNatClampNeg n).1 / 100).toInt32, wk_feedL k.toNatClampNeg (-((wk_toilR (wk_rk σ k.toNatClampNeg) (wk_fg σ) k.toNatClampNeg n).1 / 100).toInt32) (wk_toilR (wk_rk σ k.toNatClampNeg) (wk_fg σ) k.toNatClampNeg n).2 (wk_n σ)) (-1000000, σ)
def wk_watchL (d n : Int32) (σ : wk_St) : Nat → Int64 × wk_St
  | 0 => (0, σ)
  | i + 1 => ((wk_watchL d n σ i).1 + (wk_do d (wk_watchL d n σ i).2 i n).1, (wk_do d (wk_watchL d n σ i).2 i n).2)
noncomputable def wk_watch (σ : wk_St) (d n : Int32) : Int64 × wk_St := wk_if ((0 ≤ d ∧ d ≤ 3) ∧ wk_in d n) (wk_watchL d n (wk_fg σ) (wk_n σ)) (-1000000, σ)
def wk_setLine (σ : wk_St) (i : Nat) (d n lo hi : Int32) : wk_St := wk_sLh (wk_sLl (wk_sLn (wk_sLd σ (upd (wk_ld σ) i d)) (upd (wk_ln σ) i n)) (upd (wk_ll σ) i lo)) (upd (wk_lh σ) i hi)
noncomputable def wk_line (σ : wk_St) (i d n lo hi : Int32) : Int32 × wk_St := wk_if (0 ≤ i ∧ i < 8) (wk_if (d = -1) (1, wk_sLd σ (upd (wk_ld σ) i.toNatClampNeg (-1))) (wk_if ((0 ≤ d ∧ d ≤ 3) ∧ wk_in d n ∧ (0 ≤ lo ∧ lo ≤ 7) ∧ (0 ≤ hi ∧ hi ≤ 7) ∧ lo ≤ hi) (1, wk_setLine σ i.toNatClampNeg d n lo hi) (-1000000, σ))) (-1000000, σ)
def wk_lineL (d n lo hi : Int32) (p : Int64 × wk_St) : Nat → Int64 × wk_St
  | 0 => p
  | i + 1 => if lo ≤ nI (wk_rk (wk_lineL d n lo hi p i).2 i) ∧ nI (wk_rk (wk_lineL d n lo hi p i).2 i) ≤ hi then ((wk_lineL d n lo hi p i).1 + (wk_do d (wk_lineL d n lo hi p i).2 i n).1, wk_gain d i (wk_do d (wk_lineL d n lo hi p i).2 i n)) else wk_lineL d n lo hi p i
def wk_sailI (p : Int64 × wk_St) : Nat → Int64 × wk_St
  | 0 => p
  | i + 1 => if wk_ld (wk_sailI p i).2 i = -1 then wk_sailI p i else wk_lineL (wk_ld (wk_sailI p i).2 i) (wk_ln (wk_sailI p i).2 i) (wk_ll (wk_sailI p i).2 i) (wk_lh (wk_sailI p i).2 i) (wk_sailI p i) (wk_n p.2)
def wk_sailT (p : Int64 × wk_St) : Nat → Int64 × wk_St
  | 0 => p
  | i + 1 => wk_sailI (wk_sailT p i) 8
noncomputable def wk_sail (σ : wk_St) (t : Int32) : Int64 × wk_St := wk_if (0 ≤ t ∧ t ≤ 20) (wk_sailT (0, wk_fg σ) t.toNatClampNeg) (-1000000, σ)
def wk_restL (x : Int32) (σ : wk_St) : Nat → wk_St
  | 0 => σ
  | i + 1 => wk_tire (wk_restL x σ i) i x
noncomputable def wk_rest (σ : wk_St) (n : Int32) : Int32 × wk_St := wk_if (0 ≤ n ∧ n ≤ 1000) (nI (wk_n σ), wk_restL (-n) σ (wk_n σ)) (-1000000, σ)
noncomputable def wk_told (σ : wk_St) (k w : Int32) : Int64 × wk_St := wk_if (wk_ok σ k) (if w = 0 then (nI (wk_rk σ k.toNatClampNeg)).toInt64 else if w = 1 then (wk_sk σ k.toNatClampNeg).toInt64 else if w = 2 then (wk_we σ k.toNatClampNeg).toInt64 else if w = 3 then wk_pu σ k.toNatClampNeg else if w = 4 then (if 2 ≤ wk_rk σ k.toNatClampNeg ∧ wk_rk σ k.toNatClampNeg ≤ 5 then 1 else 0) else if w = 5 then (if 1 ≤ wk_rk σ k.toNatClampNeg then 1 else 0) else if w = 6 then (if 6 ≤ wk_rk σ k.toNatClampNeg then 1 else 0) else -1000000, σ) (-1000000, σ)
noncomputable def wk_noteAt (σ : wk_St) (i : Int32) : Int32 × wk_St := wk_if (0 ≤ i ∧ i < nI (wk_nt σ) ∧ i < 64) (wk_kp σ i.toNatClampNeg, σ) (-1000000, σ)
