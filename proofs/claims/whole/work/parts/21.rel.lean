/-! what the class and the reference hold, side by side -/
def pcN (s : Nat) : Nat := s % 2 + s / 2 % 2 + s / 4 % 2 + s / 8 % 2 + s / 16 % 2 + s / 32 % 2 + s / 64 % 2 + s / 128 % 2
/-- a row of the reference that a run can reach -/
def Wa (a : Nat → Int32) : Prop :=
  (∃ s0 s1 f : Nat, s0 < 256 ∧ s1 < 256 ∧ a 0 = nI s0 ∧ a 1 = nI s1 ∧ a 38 = nI f ∧ pcN s0 + pcN s1 + f ≤ 16) ∧
  ∀ q, q < 2 → (∃ n p : Nat, 1 ≤ n ∧ n ≤ 8 ∧ p < n ∧ a (4 + q) = nI n ∧ a (2 + q) = nI p) ∧ (∀ k, k < 8 → ∃ h : Nat, h < 8 ∧ a (6 + 8 * q + k) = nI h) ∧ (∀ k, k < 8 → a (22 + 8 * q + k) = 0 ∨ a (22 + 8 * q + k) = 1)
/-- the juggler q of the row -/
def Rj (j : JT) (a : Nat → Int32) (q : Nat) : Prop :=
  j.1 = a q ∧ j.2.2.2.1 = a (4 + q) ∧ j.2.2.2.2.1 = a (2 + q) ∧ j.2.2.2.2.2.1 = a (40 + q) ∧ j.2.2.2.2.2.2 = a (42 + q) ∧
  (∀ k, k < 8 → j.2.1 k = a (6 + 8 * q + k)) ∧ (∀ k, k < 8 → nI k < a (4 + q) → f_X7_has j.2.2.1 (nI k) = some (a (22 + 8 * q + k)))
def Rq (S : ST) (a : Nat → Int32) : Prop := Rj S.1 a 0 ∧ Rj S.2.1 a 1 ∧ S.2.2.1 = a 38 ∧ S.2.2.2.2.1 = a 44 ∧ S.2.2.2.2.2 = a 45 ∧ Wa a
def Rs (S : ST) (a : Nat → Int32) : Prop := Rq S a ∧ S.2.2.2.1 = a 39
def RH (rs : Nat → ST) (od sz : Int32) (hist : Nat → Int32) (hl : Int32) : Prop :=
  ∃ o h : Nat, o < 6 ∧ h ≤ 6 ∧ od = nI o ∧ sz = nI h ∧ hl = nI h ∧ ∀ k, k < h → Rs (rs ((o + k) % 6)) (fun i => hist (46 * k + i))
def RS (k0 : ST) (f0 : Int32) (k1 : ST) (f1 : Int32) (slots saved : Nat → Int32) : Prop :=
  (f0 = 0 ∨ f0 = 1) ∧ (f1 = 0 ∨ f1 = 1) ∧ saved 0 = f0 ∧ saved 1 = f1 ∧ (f0 = 1 → Rs k0 (fun i => slots i)) ∧ (f1 = 1 → Rs k1 (fun i => slots (46 + i)))
def RP (codes : Nat → Int32) (len : Int32) (pad : Nat → Int32) (pl : Int32) : Prop :=
  ∃ n : Nat, n ≤ 30 ∧ len = nI n ∧ pl = nI n ∧ (∀ k, k < n → codes k = pad k) ∧ ∀ k, k < n → ∃ c : Nat, 33 ≤ c ∧ c ≤ 126 ∧ pad k = nI c
