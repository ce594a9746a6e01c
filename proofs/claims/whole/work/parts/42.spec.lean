-- WHAT IS TO COME, as numbers
def hs (g : Nat → Nat) : Nat → Nat
  | 0 => 0
  | n + 1 => hs g n + g n
theorem hs_le {g h : Nat → Nat} {B : Nat} : ∀ n, (∀ e, e < n → g e ≤ h e * B) → hs g n ≤ hs h n * B
  | 0, _ => by simp [hs]
  | n + 1, hg => by
    have a := hs_le n (fun e he => hg e (by omega))
    have b := hg n (by omega)
    show hs g n + g n ≤ (hs h n + h n) * B
    rw [Nat.add_mul]
    omega
theorem hs_congr {g h : Nat → Nat} : ∀ n, (∀ e, e < n → g e = h e) → hs g n = hs h n
  | 0, _ => rfl
  | n + 1, hg => by
    show hs g n + g n = hs h n + h n
    rw [hs_congr n (fun e he => hg e (by omega)), hg n (by omega)]
-- one event: its runs and what is behind it
def sG (s d f : Nat) (any : Bool) (u : Nat) (V : Nat → Nat) (e st : Nat) : Nat := if any = true ∧ 0 < mR s d f e st then u else mR s d f e st * u + V (mB s d f e st)
def sH (s d f : Nat) (any : Bool) (u : Nat) (V : Nat → Nat) (sh : Nat → Nat) (st : Nat) : Nat := hs (fun e => sh e * sG s d f any u V e st) 6
def sB (s d f u : Nat) (V : Nat → Nat) (st : Nat) : Nat := 20 * sG s d f false u V 6 st
def sW (s d f u : Nat) (V sh : Nat → Nat) (st : Nat) : Nat := if st = 24 then 0 else if mC 6 st = true then max (sH s d f false u V sh st) (sB s d f u V st) else sH s d f false u V sh st
def sT (s d f u sl : Nat) (V sh : Nat → Nat) (st : Nat) : Nat := sl * sW s d f u V sh (mB s d f 7 st) + (20 - sl) * sW s d f u V sh (mB s d f 8 st)
-- what is chosen between hitting and bunting; at all
def sC1 (s d f u : Nat) (V sh : Nat → Nat) (st : Nat) : Nat := if mC 6 st = true ∧ sH s d f false u V sh st < sB s d f u V st then 1 else 0
def sC (s d f u sl : Nat) (V sh : Nat → Nat) (st : Nat) : Nat := if mC 7 st = true ∧ 20 * sW s d f u V sh st < sT s d f u sl V sh st then 2 else sC1 s d f u V sh st
def sV (s d f u sl : Nat) (V sh : Nat → Nat) (st : Nat) : Nat := if mC 7 st = true then max (20 * sW s d f u V sh st) (sT s d f u sl V sh st) else 20 * sW s d f u V sh st
-- by a kind (0 plain, 1 any, 2 wise, 3 table)
def sK (s d f u sl kd : Nat) (V sh : Nat → Nat) (st : Nat) : Nat := if kd = 2 then sV s d f u sl V sh st else sH s d f (kd == 1) u V sh st
def sSc (c kd : Nat) : Nat := if kd = 2 then 400 else if kd = 3 then 20 * c else 20
-- the chances of a batter at so many faced; of all together
def tb (ti fc x : Nat) : Nat := min x (fc / ti)
def sh1 (ti : Nat) (CH : Nat → Nat → Nat) (b fc e : Nat) : Nat := if e = 0 then CH b 0 - tb ti fc (CH b 0) else if e = 2 then CH b 2 + tb ti fc (CH b 0) else CH b e
def sh3 (c : Nat) (CH : Nat → Nat → Nat) (e : Nat) : Nat := hs (fun b => CH b e) c
def sSh (c ti kd : Nat) (CH : Nat → Nat → Nat) (b fc e : Nat) : Nat := if kd = 3 then sh3 c CH e else sh1 ti CH b fc e
-- level by level
def LV (s d f c sl ti kd k fi fc : Nat) (CH : Nat → Nat → Nat) (OR : Nat → Nat) : Nat → Nat → Nat
  | 0, _ => 0
  | j + 1, st => if st < 24 then sK s d f (sSc c kd ^ j) sl kd (LV s d f c sl ti kd k fi fc CH OR j) (sSh c ti kd CH (OR ((fi + (k - (j + 1))) % c)) (fc + (k - (j + 1)))) st else 0
-- bounds
theorem mB_le {s d f e st : Nat} (h : RV s d f) (he : e < 9) (hst : st < 24) : mB s d f e st ≤ 24 := (m_f2 h he hst).2.2
theorem mR_le {s d f e st : Nat} (h : RV s d f) (he : e < 9) (hst : st < 24) : mR s d f e st ≤ 4 := (m_f1 h he hst).2.2.2.2.2
theorem sG_le {s d f u B e st : Nat} {any : Bool} {V : Nat → Nat} (h : RV s d f) (he : e < 9) (hst : st < 24) (hV : ∀ q, q ≤ 24 → V q ≤ B) : sG s d f any u V e st ≤ 4 * u + B := by
  unfold sG
  have a := hV _ (mB_le h he hst)
  have b := Nat.mul_le_mul_right u (mR_le h he hst)
  by_cases c : any = true ∧ 0 < mR s d f e st
  · rw [if_pos c]
    omega
  · rw [if_neg c]
    omega
theorem sH_le {s d f u B st : Nat} {any : Bool} {V sh : Nat → Nat} (h : RV s d f) (hst : st < 24) (hV : ∀ q, q ≤ 24 → V q ≤ B) : sH s d f any u V sh st ≤ hs sh 6 * (4 * u + B) := by
  unfold sH
  refine hs_le 6 (fun e he => ?_)
  exact Nat.mul_le_mul_left _ (sG_le h (show e < 9 by omega) hst hV)
theorem sB_le {s d f u B st : Nat} {V : Nat → Nat} (h : RV s d f) (hst : st < 24) (hV : ∀ q, q ≤ 24 → V q ≤ B) : sB s d f u V st ≤ 20 * (4 * u + B) := Nat.mul_le_mul_left _ (sG_le h (by decide) hst hV)
theorem sW_le {s d f u B st : Nat} {V sh : Nat → Nat} (h : RV s d f) (hst : st ≤ 24) (hV : ∀ q, q ≤ 24 → V q ≤ B) (h20 : hs sh 6 = 20) : sW s d f u V sh st ≤ 20 * (4 * u + B) := by
  unfold sW
  by_cases c : st = 24
  · rw [if_pos c]
    omega
  · rw [if_neg c]
    have a := sH_le (any := false) (u := u) (sh := sh) h (show st < 24 by omega) hV
    have b := sB_le (u := u) h (show st < 24 by omega) hV
    rw [h20] at a
    by_cases q : mC 6 st = true
    · rw [if_pos q]
      omega
    · rw [if_neg q]
      exact a
theorem sT_le {s d f u sl B st : Nat} {V sh : Nat → Nat} (h : RV s d f) (hst : st < 24) (hsl : sl ≤ 20) (hV : ∀ q, q ≤ 24 → V q ≤ B) (h20 : hs sh 6 = 20) : sT s d f u sl V sh st ≤ 400 * (4 * u + B) := by
  unfold sT
  have a := sW_le (u := u) (sh := sh) h (mB_le h (show 7 < 9 by decide) hst) hV h20
  have b := sW_le (u := u) (sh := sh) h (mB_le h (show 8 < 9 by decide) hst) hV h20
  have c := Nat.mul_le_mul_left sl a
  have e := Nat.mul_le_mul_left (20 - sl) b
  have g : sl * (20 * (4 * u + B)) + (20 - sl) * (20 * (4 * u + B)) = 20 * (20 * (4 * u + B)) := by
    rw [← Nat.add_mul]
    congr 1
    omega
  omega
theorem sV_le {s d f u sl B st : Nat} {V sh : Nat → Nat} (h : RV s d f) (hst : st < 24) (hsl : sl ≤ 20) (hV : ∀ q, q ≤ 24 → V q ≤ B) (h20 : hs sh 6 = 20) : sV s d f u sl V sh st ≤ 400 * (4 * u + B) := by
  unfold sV
  have a := sT_le (u := u) h hst hsl hV h20
  have b := sW_le (u := u) (sh := sh) h (show st ≤ 24 by omega) hV h20
  by_cases q : mC 7 st = true
  · rw [if_pos q]
    omega
  · rw [if_neg q]
    omega
theorem sK_le {s d f u sl c kd B st : Nat} {V sh : Nat → Nat} (h : RV s d f) (hst : st < 24) (hsl : sl ≤ 20) (hV : ∀ q, q ≤ 24 → V q ≤ B) (h20 : hs sh 6 = if kd = 3 then 20 * c else 20) : sK s d f u sl kd V sh st ≤ sSc c kd * (4 * u + B) := by
  unfold sK sSc
  by_cases q : kd = 2
  · rw [if_pos q, if_pos q]
    rw [if_neg (by omega)] at h20
    exact sV_le h hst hsl hV h20
  · rw [if_neg q, if_neg q]
    have a := sH_le (any := kd == 1) (u := u) (sh := sh) h hst hV
    rw [h20] at a
    exact a
-- a batter's chances make twenty
theorem sh1_sum {ti fc b : Nat} {CH : Nat → Nat → Nat} (h : hs (CH b) 6 = 20) : hs (sh1 ti CH b fc) 6 = 20 := by
  have e : hs (CH b) 6 = 0 + CH b 0 + CH b 1 + CH b 2 + CH b 3 + CH b 4 + CH b 5 := rfl
  have e2 : hs (sh1 ti CH b fc) 6 = 0 + (CH b 0 - tb ti fc (CH b 0)) + CH b 1 + (CH b 2 + tb ti fc (CH b 0)) + CH b 3 + CH b 4 + CH b 5 := rfl
  have e3 : tb ti fc (CH b 0) ≤ CH b 0 := Nat.min_le_left _ _
  omega
theorem hs_add (g h : Nat → Nat) : ∀ n, hs (fun i => g i + h i) n = hs g n + hs h n
  | 0 => rfl
  | n + 1 => by
    show hs (fun i => g i + h i) n + (g n + h n) = hs g n + g n + (hs h n + h n)
    rw [hs_add g h n]
    omega
theorem sh3_sum {CH : Nat → Nat → Nat} : ∀ c, (∀ b, b < c → hs (CH b) 6 = 20) → hs (sh3 c CH) 6 = 20 * c
  | 0, _ => rfl
  | c + 1, h => by
    have a := sh3_sum c (fun b hb => h b (by omega))
    have b := h c (by omega)
    have e : hs (sh3 (c + 1) CH) 6 = hs (fun i => sh3 c CH i + CH c i) 6 := rfl
    have k := hs_add (sh3 c CH) (CH c) 6
    omega
theorem sSh_sum {c ti kd b fc : Nat} {CH : Nat → Nat → Nat} (h : ∀ b, b < c → hs (CH b) 6 = 20) (hb : b < c) : hs (sSh c ti kd CH b fc) 6 = if kd = 3 then 20 * c else 20 := by
  by_cases q : kd = 3
  · rw [if_pos q]
    have e : sSh c ti kd CH b fc = sh3 c CH := by
      funext e
      unfold sSh
      rw [if_pos q]
    rw [e]
    exact sh3_sum c h
  · rw [if_neg q]
    have e : sSh c ti kd CH b fc = sh1 ti CH b fc := by
      funext e
      unfold sSh
      rw [if_neg q]
    rw [e]
    exact sh1_sum (h b hb)
theorem LV_le {s d f c sl ti kd k fi fc : Nat} {CH : Nat → Nat → Nat} {OR : Nat → Nat} (h : RV s d f) (hsl : sl ≤ 20) (hc : 0 < c) (hCH : ∀ b, b < c → hs (CH b) 6 = 20) (hO : ∀ i, i < c → OR i < c) : ∀ j st, LV s d f c sl ti kd k fi fc CH OR j st ≤ 4 * j * sSc c kd ^ j
  | 0, st => Nat.zero_le _
  | j + 1, st => by
    have ih := LV_le (k := k) (fi := fi) (fc := fc) (ti := ti) (kd := kd) h hsl hc hCH hO j
    show (if st < 24 then _ else 0) ≤ _
    by_cases q : st < 24
    · rw [if_pos q]
      refine Nat.le_trans (sK_le (c := c) h q hsl (fun q _ => ih q) (sSh_sum hCH (hO _ (Nat.mod_lt _ hc)))) ?_
      have e : 4 * (j + 1) * sSc c kd ^ (j + 1) = sSc c kd * (4 * sSc c kd ^ j + 4 * j * sSc c kd ^ j) := by
        rw [Nat.pow_succ, ← Nat.add_mul, Nat.mul_comm (sSc c kd), ← Nat.mul_assoc]
        congr 2
        omega
      rw [e]
      exact Nat.le_refl _
    · rw [if_neg q]
      exact Nat.zero_le _
theorem LV_over {s d f c sl ti kd k fi fc : Nat} {CH : Nat → Nat → Nat} {OR : Nat → Nat} : ∀ j, LV s d f c sl ti kd k fi fc CH OR j 24 = 0
  | 0 => rfl
  | j + 1 => by
    show (if 24 < 24 then _ else 0) = 0
    rw [if_neg (by decide)]
theorem sSc_le {c kd : Nat} (h : c ≤ 9) : sSc c kd ≤ 400 := by
  unfold sSc
  by_cases q : kd = 2
  · rw [if_pos q]
    exact Nat.le_refl _
  · rw [if_neg q]
    by_cases q2 : kd = 3
    · rw [if_pos q2]
      omega
    · rw [if_neg q2]
      omega
theorem sSc_pow {c kd j : Nat} (h : c ≤ 9) (hj : j ≤ 5) : sSc c kd ^ j ≤ 10240000000000 := by
  have a : sSc c kd ^ j ≤ 400 ^ j := Nat.pow_le_pow_left (sSc_le h) j
  have b : (400 : Nat) ^ j ≤ 400 ^ 5 := Nat.pow_le_pow_right (by decide) hj
  have e : (400 : Nat) ^ 5 = 10240000000000 := by decide
  omega
theorem LV_lt {s d f c sl ti kd k fi fc : Nat} {CH : Nat → Nat → Nat} {OR : Nat → Nat} (h : RV s d f) (hsl : sl ≤ 20) (hc : 0 < c) (hc9 : c ≤ 9) (hCH : ∀ b, b < c → hs (CH b) 6 = 20) (hO : ∀ i, i < c → OR i < c) {j : Nat} (hj : j ≤ 5) (st : Nat) : LV s d f c sl ti kd k fi fc CH OR j st ≤ 204800000000000 := by
  have a := LV_le (k := k) (fi := fi) (fc := fc) (ti := ti) (kd := kd) h hsl hc hCH hO j st
  have b := sSc_pow (c := c) (kd := kd) hc9 hj
  have e := Nat.mul_le_mul (show 4 * j ≤ 20 by omega) b
  omega
