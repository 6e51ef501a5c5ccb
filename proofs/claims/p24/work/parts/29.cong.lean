/-! what a pattern tells depends on its heights alone; the check of all sound patterns, by the kernel -/
section
variable {a b : Nat → Int32} {N : Int32} (hc : ∀ p, f_X3_heightAt a N p = f_X3_heightAt b N p)
theorem cg_landing {a b : Nat → Int32} {N : Int32} (hc : ∀ p, f_X3_heightAt a N p = f_X3_heightAt b N p) (p : Int32) : f_X3_landing a N p = f_X3_landing b N p := by
  unfold f_X3_landing; rw [hc]
theorem cg_sound4 {a b : Nat → Int32} {N : Int32} (hc : ∀ p, f_X3_heightAt a N p = f_X3_heightAt b N p) : ∀ (n : Nat) (x y : Int32), f_X3_isSound_L4 a N n x y = f_X3_isSound_L4 b N n x y := by
  intro n
  induction n with
  | zero => intro x y; rfl
  | succ n ih => intro x y; rw [f_X3_isSound_L4, f_X3_isSound_L4, cg_landing hc]; simp only [ih]
theorem cg_sound {a b : Nat → Int32} {N : Int32} (hc : ∀ p, f_X3_heightAt a N p = f_X3_heightAt b N p) : f_X3_isSound a N = f_X3_isSound b N := cg_sound4 hc _ _ _
theorem cg_clubs4 {a b : Nat → Int32} {N : Int32} (hc : ∀ p, f_X3_heightAt a N p = f_X3_heightAt b N p) : ∀ (n : Nat) (x y : Int32), f_X3_clubs_L4 a N n x y = f_X3_clubs_L4 b N n x y := by
  intro n
  induction n with
  | zero => intro x y; rfl
  | succ n ih => intro x y; rw [f_X3_clubs_L4, f_X3_clubs_L4, hc]; simp only [ih]
theorem cg_clubs {a b : Nat → Int32} {N : Int32} (hc : ∀ p, f_X3_heightAt a N p = f_X3_heightAt b N p) : f_X3_clubs a N = f_X3_clubs b N := cg_clubs4 hc _ _ _
theorem cg_start5 {a b : Nat → Int32} {N : Int32} (hc : ∀ p, f_X3_heightAt a N p = f_X3_heightAt b N p) : ∀ (n : Nat) (x y : Int32), f_X3_startState_L5 a N n x y = f_X3_startState_L5 b N n x y := by
  intro n
  induction n with
  | zero => intro x y; rfl
  | succ n ih => intro x y; rw [f_X3_startState_L5, f_X3_startState_L5, hc]; simp only [ih]
theorem cg_start {a b : Nat → Int32} {N : Int32} (hc : ∀ p, f_X3_heightAt a N p = f_X3_heightAt b N p) : f_X3_startState a N = f_X3_startState b N := cg_start5 hc _ _ _
theorem cg_orb17 {a b : Nat → Int32} {N : Int32} (hc : ∀ p, f_X3_heightAt a N p = f_X3_heightAt b N p) : ∀ (n : Nat) (x y z : Int32), f_X3_orbitThrough_L17 a N n x y z = f_X3_orbitThrough_L17 b N n x y z := by
  intro n
  induction n with
  | zero => intro x y z; rfl
  | succ n ih => intro x y z; rw [f_X3_orbitThrough_L17, f_X3_orbitThrough_L17, cg_landing hc]; simp only [ih]
theorem cg_orb {a b : Nat → Int32} {N : Int32} (hc : ∀ p, f_X3_heightAt a N p = f_X3_heightAt b N p) (p : Int32) : f_X3_orbitThrough a N p = f_X3_orbitThrough b N p := by
  unfold f_X3_orbitThrough
  rw [hc]
  simp only [cg_orb17 hc]
theorem cg_orbits6 {a b : Nat → Int32} {N : Int32} (hc : ∀ p, f_X3_heightAt a N p = f_X3_heightAt b N p) : ∀ (n : Nat) (x y z : Int32), f_X3_orbits_L6 a N n x y z = f_X3_orbits_L6 b N n x y z := by
  intro n
  induction n with
  | zero => intro x y z; rfl
  | succ n ih => intro x y z; rw [f_X3_orbits_L6, f_X3_orbits_L6, cg_orb hc]; simp only [ih]
theorem cg_orbits {a b : Nat → Int32} {N : Int32} (hc : ∀ p, f_X3_heightAt a N p = f_X3_heightAt b N p) : f_X3_orbits a N = f_X3_orbits b N := cg_orbits6 hc _ _ _ _
theorem cg_again2 {a b : Nat → Int32} {N : Int32} (hc : ∀ p, f_X3_heightAt a N p = f_X3_heightAt b N p) (t : Int32) : ∀ (n : Nat) (x : Int32), f_X3_comesAgainBehind_L2 a N t n x = f_X3_comesAgainBehind_L2 b N t n x := by
  intro n
  induction n with
  | zero => intro x; rfl
  | succ n ih => intro x; rw [f_X3_comesAgainBehind_L2, f_X3_comesAgainBehind_L2]; simp only [hc, ih]
theorem cg_period2 {a b : Nat → Int32} {N : Int32} (hc : ∀ p, f_X3_heightAt a N p = f_X3_heightAt b N p) : ∀ (n : Nat) (x : Int32), f_X3_period_L2 a N n x = f_X3_period_L2 b N n x := by
  intro n
  induction n with
  | zero => intro x; rfl
  | succ n ih =>
    intro x
    rw [f_X3_period_L2, f_X3_period_L2, show f_X3_comesAgainBehind a N x = f_X3_comesAgainBehind b N x from cg_again2 hc x _ _]
    simp only [ih]
theorem cg_period {a b : Nat → Int32} {N : Int32} (hc : ∀ p, f_X3_heightAt a N p = f_X3_heightAt b N p) : f_X3_period a N = f_X3_period b N := cg_period2 hc _ _
theorem cg_back2 {a b : Nat → Int32} {N : Int32} (hc : ∀ p, f_X3_heightAt a N p = f_X3_heightAt b N p) (t : Int32) : ∀ (n : Nat) (x : Int32), f_X3_heightTurnedBack_L2 a N t n x = f_X3_heightTurnedBack_L2 b N t n x := by
  intro n
  induction n with
  | zero => intro x; rfl
  | succ n ih => intro x; rw [f_X3_heightTurnedBack_L2, f_X3_heightTurnedBack_L2, cg_landing hc]; simp only [hc, ih]
theorem cg_back {a b : Nat → Int32} {N : Int32} (hc : ∀ p, f_X3_heightAt a N p = f_X3_heightAt b N p) (p : Int32) : f_X3_heightTurnedBack a N p = f_X3_heightTurnedBack b N p := cg_back2 hc _ _ _
end
def ar (c : Nat) : Nat → Int32 := fun k => nI (c / 8 ^ k % 8)
def frc {α : Type} (v : Nat) (f : Nat → α) : α := Nat.casesOn (motive := fun _ => α) v (f 0) (fun k => f (k + 1))
theorem frc_eq {α : Type} (v : Nat) (f : Nat → α) : frc v f = f v := by cases v <;> rfl
def i2n (x : Option Int32) : Nat := (x.getD 0).toNatClampNeg
def allN (p : Nat → Bool) : Nat → Bool
  | 0 => true
  | m + 1 => allN p m && p m
theorem allN_at {p : Nat → Bool} : ∀ {n : Nat}, allN p n = true → ∀ k, k < n → p k = true
  | 0, _, k, hk => absurd hk (by omega)
  | n + 1, h, k, hk => by
    have h' : (allN p n && p n) = true := h
    rw [Bool.and_eq_true] at h'
    by_cases e : k = n
    · rw [e]; exact h'.2
    · exact allN_at h'.1 k (by omega)
/-- the code of the pattern turned back -/
def bkc (n c : Nat) : Nat → Nat
  | 0 => 0
  | m + 1 => bkc n c m + i2n (f_X3_heightTurnedBack (ar c) (nI n) (nI m)) * 8 ^ m
def dsum (c : Nat) : Nat → Nat
  | 0 => 0
  | m + 1 => dsum c m + c / 8 ^ m % 8
/-- the program without passes of a code, and a partner who has nothing -/
def PC (n c : Nat) : PG := ((n, fun k => c / 8 ^ k % 8, fun _ => false), (1, fun _ => 0, fun _ => false))
def good (n c : Nat) : Bool :=
  frc (i2n (f_X3_clubs (ar c) (nI n))) fun cl => frc (i2n (f_X3_startState (ar c) (nI n))) fun st => frc (i2n (f_X3_orbits (ar c) (nI n))) fun ob => frc (i2n (f_X3_period (ar c) (nI n))) fun pe => frc (bkc n c n) fun cb =>
    decide (f_X3_clubs (ar c) (nI n) = some (nI cl)) && (decide (f_X3_startState (ar c) (nI n) = some (nI st)) && (decide (f_X3_orbits (ar c) (nI n) = some (nI ob)) && (decide (f_X3_period (ar c) (nI n) = some (nI pe)) &&
    (allN (fun k => decide (f_X3_heightTurnedBack (ar c) (nI n) (nI k) = some (nI (cb / 8 ^ k % 8)))) n &&
    (decide (f_X3_isSound (ar cb) (nI n) = some 1) && (decide (f_X3_clubs (ar cb) (nI n) = some (nI cl)) && (decide (f_X3_orbits (ar cb) (nI n) = some (nI ob)) && (decide (f_X3_period (ar cb) (nI n) = some (nI pe)) &&
    (allN (fun k => decide (f_X3_heightTurnedBack (ar cb) (nI n) (nI k) = some (nI (c / 8 ^ k % 8)))) n &&
    (Nat.beq (dsum cb n) (cl * n) && (Nat.blt st 256 && (Nat.beq (pcN st) cl &&
    (decide (kyN (PC n c) n ((st, 0), (0, 0)) = ((st, 0), (0, 0))) && Nat.beq (dN (PC n c) n ((st, 0), (0, 0))) 0)))))))))))))
def all8 (p : Nat → Bool) : Bool := p 0 && (p 1 && (p 2 && (p 3 && (p 4 && (p 5 && (p 6 && p 7))))))
def dfs (n : Nat) : Nat → Nat → Nat → Nat → Bool
  | 0, _, c, _ => good n c
  | r + 1, k, c, M => all8 fun d => frc ((k + d) % n) fun l => bif Nat.beq (M / 2 ^ l % 2) 1 then true else frc (c + d * 8 ^ k) fun c' => frc (M + 2 ^ l) fun M' => frc (k + 1) fun k' => dfs n r k' c' M'
theorem dfs1 : dfs 1 1 0 0 0 = true := by decide +kernel
theorem dfs2 : dfs 2 2 0 0 0 = true := by decide +kernel
theorem dfs3 : dfs 3 3 0 0 0 = true := by decide +kernel
