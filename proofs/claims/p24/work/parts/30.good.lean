/-! the check of all sound patterns of up to 6 throws, by the kernel -/
def dg (c : Nat) : Nat → Nat := fun k => c / 8 ^ k % 8
def frc {α : Type} (v : Nat) (f : Nat → α) : α := Nat.casesOn (motive := fun _ => α) v (f 0) (fun k => f (k + 1))
theorem frc_eq {α : Type} (v : Nat) (f : Nat → α) : frc v f = f v := by cases v <;> rfl
def allK (p : Nat → Bool) : Nat → Bool
  | 0 => true
  | m + 1 => allK p m && p m
theorem allK_at {p : Nat → Bool} : ∀ {n : Nat}, allK p n = true → ∀ k, k < n → p k = true
  | 0, _, k, hk => absurd hk (by omega)
  | n + 1, h, k, hk => by
    have h' : (allK p n && p n) = true := h
    rw [Bool.and_eq_true] at h'
    by_cases e : k = n
    · rw [e]; exact h'.2
    · exact allK_at h'.1 k (by omega)
/-- the code of the pattern turned back -/
def bkc (n c : Nat) : Nat → Nat
  | 0 => 0
  | m + 1 => bkc n c m + dg c m * 8 ^ (n - 1 - (m + dg c m) % n)
/-- the program without passes of a code, and a partner who has nothing -/
def PC (n c : Nat) : PG := (lrn n (dg c) (fun _ => 0) 0, (1, fun _ => 0, fun _ => false))
def kyF (P : PG) : Nat → Nat → Nat → Nat → Nat → Nat → KY × Nat
  | 0, a, b, c, d, e => (((a, b), (c, d)), e)
  | r + 1, a, b, c, d, e => frc (bK P ((a, b), (c, d))).1.1 fun a' => frc (bK P ((a, b), (c, d))).1.2 fun b' => frc (bK P ((a, b), (c, d))).2.1 fun c' => frc (bK P ((a, b), (c, d))).2.2 fun d' => frc (e + dK P ((a, b), (c, d))) fun e' => kyF P r a' b' c' d' e'
theorem kyF_eq (P : PG) : ∀ (r a b c d e : Nat), kyF P r a b c d e = (kyN P r ((a, b), (c, d)), e + dN P r ((a, b), (c, d)))
  | 0, _, _, _, _, _ => rfl
  | r + 1, a, b, c, d, e => by
    unfold kyF
    rw [frc_eq, frc_eq, frc_eq, frc_eq, frc_eq, kyF_eq P r]
    show (kyN P r (bK P ((a, b), (c, d))), e + dK P ((a, b), (c, d)) + dN P r (bK P ((a, b), (c, d)))) = (kyN P r (bK P ((a, b), (c, d))), e + (dK P ((a, b), (c, d)) + dN P r (bK P ((a, b), (c, d)))))
    rw [Nat.add_assoc]
def good (n c : Nat) : Bool :=
  frc (smN (dg c) n / n) fun cl => frc (stN (dg c) n) fun st => frc (bkc n c n) fun cb =>
    allK (fun k => Nat.beq (bkN (dg c) n k n 0) (dg cb k)) n && (Nat.beq (sdN (dg cb) n n 0 0) (2 ^ n - 1) && (Nat.beq (smN (dg cb) n) (cl * n) &&
    (Nat.beq (osN (dg c) n n 0 0 0) (osN (dg cb) n n 0 0 0) && (Nat.beq (peN (dg c) n (n - 1) 1) (peN (dg cb) n (n - 1) 1) &&
    (allK (fun k => Nat.beq (bkN (dg cb) n k n 0) (dg c k)) n && (Nat.blt st 256 && (Nat.beq (pcN st) cl && decide (kyF (PC n c) n st 0 0 0 0 = (((st, 0), (0, 0)), 0)))))))))
def all8 (p : Nat → Bool) : Bool := p 0 && (p 1 && (p 2 && (p 3 && (p 4 && (p 5 && (p 6 && p 7))))))
def dfs (n : Nat) : Nat → Nat → Nat → Nat → Bool
  | 0, _, c, _ => good n c
  | r + 1, k, c, M => all8 fun d => frc ((k + d) % n) fun l => bif Nat.beq (M / 2 ^ l % 2) 1 then true else frc (c + d * 8 ^ k) fun c' => frc (M + 2 ^ l) fun M' => frc (k + 1) fun k' => dfs n r k' c' M'
