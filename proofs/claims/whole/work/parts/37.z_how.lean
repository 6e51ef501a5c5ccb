/-! how many: st_howMany -/
def SumTo (f : Nat → Nat) : Nat → Nat
  | 0 => 0
  | n + 1 => SumTo f n + f n
theorem SumTo_cong {f g : Nat → Nat} : ∀ {n}, (∀ k, k < n → f k = g k) → SumTo f n = SumTo g n
  | 0, _ => rfl
  | n + 1, h => by rw [SumTo, SumTo, SumTo_cong (fun k hk => h k (by omega)), h n (by omega)]
theorem SumTo_eight (f : Nat → Nat) : ∀ M, SumTo f (8 * M) = SumTo (fun d => SumTo (fun c => f (d + 8 * c)) M) 8
  | 0 => rfl
  | M + 1 => by
    have ih := SumTo_eight f M
    rw [show 8 * (M + 1) = 8 * M + 1 + 1 + 1 + 1 + 1 + 1 + 1 + 1 by omega]
    simp only [SumTo, Nat.zero_add] at ih ⊢
    rw [Nat.add_comm 1 (8 * M), Nat.add_comm 2 (8 * M), Nat.add_comm 3 (8 * M), Nat.add_comm 4 (8 * M), Nat.add_comm 5 (8 * M), Nat.add_comm 6 (8 * M), Nat.add_comm 7 (8 * M)]
    omega
theorem SumTo_zero {f : Nat → Nat} {a : Nat} : ∀ {b}, a ≤ b → (∀ k, a ≤ k → k < b → f k = 0) → SumTo f b = SumTo f a
  | 0, h, _ => by obtain rfl : a = 0 := by omega
                  rfl
  | b + 1, h, hz => by
    by_cases e : a = b + 1
    · subst e; rfl
    · rw [SumTo, SumTo_zero (show a ≤ b by omega) (fun k k1 k2 => hz k k1 (by omega)), hz b (by omega) (by omega), Nat.add_zero]
abbrev Inj (h : Nat → Nat) (n k : Nat) : Prop := ∀ d, d < k → ∀ c, c < d → LL h n c ≠ LL h n d
def pv (n S : Nat) (h : Nat → Nat) : Nat := if SumTo h n = S ∧ Inj h n n then 1 else 0
theorem LL_cong {h g : Nat → Nat} {n c : Nat} (e : h c = g c) : LL h n c = LL g n c := by unfold LL; rw [e]
theorem Inj_cong {h g : Nat → Nat} {n k : Nat} (e : ∀ j, j < k → h j = g j) : Inj h n k ↔ Inj g n k := by
  constructor
  · intro hi d hd c hc
    rw [← LL_cong (e c (by omega)), ← LL_cong (e d hd)]
    exact hi d hd c hc
  · intro hi d hd c hc
    rw [LL_cong (e c (by omega)), LL_cong (e d hd)]
    exact hi d hd c hc
theorem pv_cong {n S : Nat} {h g : Nat → Nat} (e : ∀ j, j < n → h j = g j) : pv n S h = pv n S g := by
  unfold pv
  rw [SumTo_cong e]
  by_cases hc : SumTo g n = S ∧ Inj h n n
  · rw [if_pos hc, if_pos ⟨hc.1, (Inj_cong e).mp hc.2⟩]
  · rw [if_neg hc, if_neg (fun h2 => hc ⟨h2.1, (Inj_cong e).mpr h2.2⟩)]
def uN (h : Nat → Nat) (k d : Nat) : Nat → Nat := fun j => if j = k then d else h j
def Ex (n S : Nat) : Nat → Nat → (Nat → Nat) → Nat
  | 0, _, h => pv n S h
  | r + 1, k, h => SumTo (fun d => Ex n S r (k + 1) (uN h k d)) 8
def hf (h : Nat → Nat) (k c : Nat) : Nat → Nat := fun j => if j < k then h j else c / 8 ^ (j - k) % 8
theorem Ex_codes (n S : Nat) : ∀ r k h, k + r = n → Ex n S r k h = SumTo (fun c => pv n S (hf h k c)) (8 ^ r) := by
  intro r
  induction r with
  | zero =>
    intro k h hk
    rw [Nat.pow_zero]
    show pv n S h = 0 + pv n S (hf h k 0)
    rw [Nat.zero_add]
    exact pv_cong (fun j hj => by unfold hf; rw [if_pos (by omega)])
  | succ r ih =>
    intro k h hk
    rw [Nat.pow_succ, Nat.mul_comm, SumTo_eight]
    show SumTo (fun d => Ex n S r (k + 1) (uN h k d)) 8 = _
    refine SumTo_cong (fun d hd => ?_)
    show Ex n S r (k + 1) (uN h k d) = _
    rw [ih (k + 1) (uN h k d) (by omega)]
    refine SumTo_cong (fun c _ => ?_)
    show pv n S (hf (uN h k d) (k + 1) c) = pv n S (hf h k (d + 8 * c))
    refine pv_cong (fun j _ => ?_)
    unfold hf uN
    by_cases h1 : j < k
    · rw [if_pos (by omega), if_neg (by omega), if_pos h1]
    · by_cases h2 : j = k
      · subst h2
        rw [if_pos (by omega), if_pos rfl, if_neg h1, Nat.sub_self, Nat.pow_zero, Nat.div_one]
        omega
      · obtain ⟨e, rfl⟩ : ∃ e, j = k + 1 + e := ⟨j - (k + 1), by omega⟩
        rw [if_neg (by omega), if_neg h1, show k + 1 + e - (k + 1) = e by omega, show k + 1 + e - k = e + 1 by omega, Nat.pow_succ, Nat.mul_comm (8 ^ e) 8, ← Nat.div_div_eq_div_mul, show (d + 8 * c) / 8 = c by omega]
/-- no ending, if two have landed together, or too much is thrown -/
theorem Ex_dead (n S : Nat) : ∀ r k h, k + r = n → (¬ Inj h n k ∨ S < SumTo h k) → Ex n S r k h = 0 := by
  intro r
  induction r with
  | zero =>
    intro k h hk hd
    obtain rfl : k = n := by omega
    show pv k S h = 0
    unfold pv
    rw [if_neg]
    rintro ⟨h1, h2⟩
    rcases hd with hd | hd
    · exact hd h2
    · omega
  | succ r ih =>
    intro k h hk hd
    show SumTo (fun d => Ex n S r (k + 1) (uN h k d)) 8 = 0
    have hz : ∀ d, 0 ≤ d → d < 8 → Ex n S r (k + 1) (uN h k d) = 0 := by
      intro d _ _
      have e : ∀ j, j < k → h j = uN h k d j := fun j hj => by unfold uN; rw [if_neg (by omega)]
      refine ih (k + 1) _ (by omega) ?_
      rcases hd with hd | hd
      · exact Or.inl (fun hi => hd ((Inj_cong e).mpr (fun a ha c hc => hi a (by omega) c hc)))
      · refine Or.inr ?_
        rw [SumTo, ← SumTo_cong e]
        omega
    exact SumTo_zero (a := 0) (b := 8) (f := fun d => Ex n S r (k + 1) (uN h k d)) (by omega) hz
section HM
variable {n S : Nat}
/-- one ending of the class: its loop over the heights -/
theorem ends_loop {k r : Nat} (n5 : n ≤ 5) (hk : k + (r + 1) = n) (hS : S ≤ 40) {h : Nat → Nat} {U : Nat} (hU : U < 2 ^ n) (hm : ∀ x, x < 8 → (mem U x ↔ ∃ c, c < k ∧ LL h n c = x)) (hs : SumTo h k ≤ S) (G : Int32 → Int32 → Int32 → Int32 → Option Int32)
    (hG : ∀ d, d < 8 → SumTo h k + d ≤ S → ¬ mem U (LL (uN h k d) n k) → G (nI n) (nI (k + 1)) (nI (stb U (LL (uN h k d) n k))) (nI (S - (SumTo h k + d))) = some (nI (Ex n S r (k + 1) (uN h k d)))) :
    ∀ (m d fuel : Nat), d + m = 8 → m < fuel → f_X7_soundEndings_L21 (nI n) (nI k) (nI U) (nI (S - SumTo h k)) G fuel (nI (SumTo (fun d => Ex n S r (k + 1) (uN h k d)) d)) (nI d) = some (nI (Ex n S (r + 1) k h)) := by
  have eE : Ex n S (r + 1) k h = SumTo (fun d => Ex n S r (k + 1) (uN h k d)) 8 := rfl
  have eh : ∀ d j, j < k → h j = uN h k d j := fun d j hj => by unfold uN; rw [if_neg (by omega)]
  have ek : ∀ d, uN h k d k = d := fun d => by unfold uN; rw [if_pos rfl]
  have es : ∀ d, SumTo (uN h k d) (k + 1) = SumTo h k + d := fun d => by rw [SumTo, ← SumTo_cong (eh d), ek]
  have hU256 := m_256 (show n ≤ 8 by omega) hU
  intro m
  induction m with
  | zero =>
    intro d fuel h1 h2
    obtain ⟨g, rfl⟩ : ∃ g, fuel = g + 1 := ⟨fuel - 1, by omega⟩
    obtain rfl : d = 8 := by omega
    rw [f_X7_soundEndings_L21, if_pos (show (8 : Int32) ≤ nI 8 by decide), eE]
  | succ m ih =>
    intro d fuel h1 h2
    obtain ⟨g, rfl⟩ : ∃ g, fuel = g + 1 := ⟨fuel - 1, by omega⟩
    rw [f_X7_soundEndings_L21, if_neg (show ¬ (8 : Int32) ≤ nI d from nI_ge (b := 8) (by omega) (by omega))]
    by_cases hp : S - SumTo h k < d
    · rw [if_pos ((nI_ltI (by omega) (by omega)).mpr hp), eE]
      have hz : ∀ x, d ≤ x → x < 8 → Ex n S r (k + 1) (uN h k x) = 0 := fun x x1 x2 => Ex_dead n S r (k + 1) _ (by omega) (Or.inr (by rw [es]; omega))
      have := SumTo_zero (a := d) (b := 8) (f := fun d => Ex n S r (k + 1) (uN h k d)) (by omega) hz
      rw [this]
    · rw [if_neg (fun e => hp ((nI_ltI (by omega) (by omega)).mp e)), nI_add, leftOver_ok n (by omega) (k + d) (by omega) (by omega), Option.bind_some]
      have eL : (k + d) % n = LL (uN h k d) n k := by unfold LL; rw [ek]
      have hlt := LL_lt (h := uN h k d) (n := n) (by omega) k
      rw [eL, b_has _ (by omega) U hU256, Option.bind_some, nI_1]
      by_cases hmm : mem U (LL (uN h k d) n k)
      · rw [if_neg (show ¬ nI (U / 2 ^ LL (uN h k d) n k % 2) = 0 from by rw [hmm]; decide), nI_1]
        have hz : Ex n S r (k + 1) (uN h k d) = 0 := Ex_dead n S r (k + 1) _ (by omega) (Or.inl (fun hi => by
          obtain ⟨c, c1, c2⟩ := (hm _ (by omega)).mp hmm
          exact hi k (by omega) c c1 (by rw [← LL_cong (eh d c c1)]; exact c2)))
        have := ih (d + 1) g (by omega) (by omega)
        rw [SumTo, hz, Nat.add_zero] at this
        exact this
      · rw [if_pos (show nI (U / 2 ^ LL (uN h k d) n k % 2) = 0 from by rw [show U / 2 ^ LL (uN h k d) n k % 2 = 0 by unfold mem at hmm; omega]; rfl), (m_or _ (by omega) U hU256).1, nI_1, pk_sub (by omega), show S - SumTo h k - d = S - (SumTo h k + d) by omega, hG d (by omega) (by omega) hmm, Option.bind_some, nI_add]
        have := ih (d + 1) g (by omega) (by omega)
        rw [SumTo] at this
        exact this
theorem ends_ok (n1 : 1 ≤ n) (n5 : n ≤ 5) (hS : S ≤ 40) : ∀ (r k D U : Nat) (h : Nat → Nat), k + r = n → r < D → U < 2 ^ n → (∀ x, x < 8 → (mem U x ↔ ∃ c, c < k ∧ LL h n c = x)) → SumTo h k ≤ S → Inj h n k → f_X7_soundEndings D (nI n) (nI k) (nI U) (nI (S - SumTo h k)) = some (nI (Ex n S r k h)) := by
  have hz : 100 < zF := by decide
  intro r
  induction r with
  | zero =>
    intro k D U h hk hD hU hm hs hi
    obtain ⟨D, rfl⟩ : ∃ e, D = e + 1 := ⟨D - 1, by omega⟩
    obtain rfl : k = n := by omega
    rw [f_X7_soundEndings, if_neg (nI_nlt (Nat.le_refl _) (by omega))]
    show _ = some (nI (pv k S h))
    unfold pv
    by_cases he : SumTo h k = S
    · rw [if_pos (by rw [he, Nat.sub_self]; rfl), if_pos ⟨he, hi⟩]; rfl
    · rw [if_neg (nI_ne0 (by omega) (by omega)), if_neg (fun h2 => he h2.1)]; rfl
  | succ r ih =>
    intro k D U h hk hD hU hm hs hi
    obtain ⟨D, rfl⟩ : ∃ e, D = e + 1 := ⟨D - 1, by omega⟩
    rw [f_X7_soundEndings, if_pos (nI_lt (by omega) (by omega))]
    refine ends_loop n5 hk hS hU hm hs (f_X7_soundEndings D) (fun d hd hsd hmm => ?_) 8 0 zF (by omega) (by omega)
    have eh : ∀ j, j < k → h j = uN h k d j := fun j hj => by unfold uN; rw [if_neg (by omega)]
    have ek : uN h k d k = d := by unfold uN; rw [if_pos rfl]
    have es : SumTo (uN h k d) (k + 1) = SumTo h k + d := by rw [SumTo, ← SumTo_cong eh, ek]
    have hlt := LL_lt (h := uN h k d) (n := n) n1 k
    have hU256 := m_256 (show n ≤ 8 by omega) hU
    have := ih (k + 1) D (stb U (LL (uN h k d) n k)) (uN h k d) (by omega) (by omega) (m_lt n (by omega) U hU _ hlt) (fun x hx => by
      rw [m_mem _ (by omega) U hU256 x hx, hm x hx]
      constructor
      · rintro (⟨c, c1, c2⟩ | rfl)
        · exact ⟨c, by omega, by rw [← LL_cong (eh c c1)]; exact c2⟩
        · exact ⟨k, by omega, rfl⟩
      · rintro ⟨c, c1, c2⟩
        by_cases hck : c = k
        · subst hck; exact Or.inr c2.symm
        · exact Or.inl ⟨c, by omega, by rw [LL_cong (eh c (by omega))]; exact c2⟩) (by rw [es]; exact hsd) (fun a ha c hc => by
      by_cases hak : a = k
      · subst hak
        intro e
        rw [← LL_cong (eh c hc)] at e
        exact hmm ((hm _ (by omega)).mpr ⟨c, hc, e⟩)
      · rw [← LL_cong (eh c (by omega)), ← LL_cong (eh a (by omega))]
        exact hi a (by omega) c hc)
    rw [es] at this
    exact this
end HM
section HR
variable {b : Nat → Int32} {h : Nat → Nat} {n : Nat}
theorem sum8_run (hb : PH b h n) (n8 : n ≤ 8) : ∀ (r k fuel : Nat), k + r = n → r < fuel → f_X8_sumOfHeights_L4 b (nI n) fuel (nI (SumTo h k)) (nI k) = some (nI (SumTo h n)) := by
  intro r
  induction r with
  | zero =>
    intro k fuel h1 h2
    obtain ⟨g, rfl⟩ : ∃ g, fuel = g + 1 := ⟨fuel - 1, by omega⟩
    obtain rfl : k = n := by omega
    rw [f_X8_sumOfHeights_L4, if_pos (nI_le (by omega) (by omega))]
  | succ r ih =>
    intro k fuel h1 h2
    obtain ⟨g, rfl⟩ : ∃ g, fuel = g + 1 := ⟨fuel - 1, by omega⟩
    rw [f_X8_sumOfHeights_L4, if_neg (nI_ge (by omega) (by omega)), if_neg (in_nI (by omega) (by decide)), nI_clamp (by omega), (hb k (by omega)).2, nI_add, nI_1]
    exact ih (k + 1) g (by omega) (by omega)
theorem full_of : ∀ n, n < 9 → ∀ M, M < 2 ^ n → pcN M = n → M = 2 ^ n - 1 := by decide +kernel
theorem sound8_run (hb : PH b h n) (n8 : n ≤ 8) (hi : Inj h n n) : ∀ (r k M fuel : Nat), k + r = n → r < fuel → M < 2 ^ n → pcN M = k → (∀ x, x < 8 → (mem M x ↔ ∃ c, c < k ∧ LL h n c = x)) → f_X8_isSound_L4 b (nI n) fuel (nI M) (nI k) = some 1 := by
  intro r
  induction r with
  | zero =>
    intro k M fuel h1 h2 h3 h4 h5
    obtain ⟨g, rfl⟩ : ∃ g, fuel = g + 1 := ⟨fuel - 1, by omega⟩
    obtain rfl : k = n := by omega
    rw [f_X8_isSound_L4, if_pos (nI_le (by omega) (by omega)), (b_first k (by omega)).1, full_of k (by omega) M h3 h4, if_pos rfl]
  | succ r ih =>
    intro k M fuel h1 h2 h3 h4 h5
    obtain ⟨g, rfl⟩ : ∃ g, fuel = g + 1 := ⟨fuel - 1, by omega⟩
    have hk : k < n := by omega
    have hl := LL_lt (h := h) (n := n) (by omega) k
    have hM := m_256 n8 h3
    obtain ⟨o1, o2⟩ := m_or (LL h n k) (by omega) M hM
    have hnm : ¬ mem M (LL h n k) := fun hm => by
      obtain ⟨c, c1, c2⟩ := (h5 _ (by omega)).mp hm
      exact hi k hk c c1 c2
    rw [if_neg hnm] at o2
    rw [f_X8_isSound_L4, if_neg (nI_ge hk (by omega)), lands8 hb n8 hk, Option.bind_some, o1, nI_1]
    refine ih (k + 1) _ g (by omega) (by omega) (m_lt n (by omega) M h3 _ hl) (by omega) (fun x hx => ?_)
    rw [m_mem _ (by omega) M hM x hx, h5 x hx]
    constructor
    · rintro (⟨c, c1, c2⟩ | rfl)
      · exact ⟨c, by omega, c2⟩
      · exact ⟨k, by omega, rfl⟩
    · rintro ⟨c, c1, c2⟩
      by_cases hck : c = k
      · subst hck; exact Or.inr c2.symm
      · exact Or.inl ⟨c, by omega, c2⟩
theorem sound8_iff (hb : PH b h n) (n1 : 1 ≤ n) (n8 : n ≤ 8) : (Inj h n n → f_X8_isSound b (nI n) = some 1) ∧ (¬ Inj h n n → f_X8_isSound b (nI n) = some 0) := by
  have hz : 100 < zF := by decide
  constructor
  · intro hi
    exact sound8_run hb n8 hi n 0 0 zF (by omega) (by omega) (Nat.two_pow_pos n) (by decide) (fun x hx => ⟨fun hm => by unfold mem at hm; rw [Nat.zero_div] at hm; omega, fun ⟨c, hc, _⟩ => by omega⟩)
  · intro hi
    obtain ⟨s, s1, s2, s3, s4⟩ := sound_ok hb hb n1 n8
    rcases s1 with rfl | rfl
    · exact s3
    · exact absurd (fun d hd c hc => (s4 rfl).2 c d hc hd) hi
theorem dig_ok : ∀ j, j < 5 → (((((3 : Int32) * nI j) &&& 31)).toBitVec.smod 32).toNat = 3 * j := by decide +kernel
theorem dig_at {c j : Nat} (hc : c < 2 ^ 20) (hj : j < 5) : ((nI c >>> (((3 : Int32) * nI j) &&& 31)) &&& (7 : Int32)) = nI (c / 8 ^ j % 8) := by
  rw [pk_shrN (by omega) _ _ (dig_ok j hj), show (7 : Int32) = nI (2 ^ 3 - 1) from rfl, fa_mask, show (8 : Nat) = 2 ^ 3 from rfl, ← Nat.pow_mul]
def dg (c : Nat) : Nat → Nat := fun j => c / 8 ^ j % 8
theorem code_ok (n1 : 1 ≤ n) (n5 : n ≤ 5) {cl c v : Nat} (hcl : cl ≤ 7) (hc : c < 2 ^ 20) (k : Int32 → Int32 → (Nat → Int32) → Option (Int32 × (Nat → Int32) × Int32)) (a : Nat → Int32) : ∃ a', f_X8_howMany_L50 (nI n) (nI n) (nI cl) (nI v) (nI c) k zF 0 a = k (nI (v + pv n (n * cl) (dg c))) (nI (c + 1)) a' := by
  have hz : 100 < zF := by decide
  obtain ⟨a', e, hI⟩ := loop_run (fun m x s => f_X8_howMany_L50 (nI n) (nI n) (nI cl) (nI v) (nI c) k m x s) n (fun s => (f_X8_sumOfHeights s (nI n)).bind (fun q7 => if q7 = (nI cl * nI n) then ((f_X8_isSound s (nI n)).bind (fun q9 => if q9 = 0 then (k (nI v + (0 : Int32)) (nI c + (1 : Int32)) s) else (k (nI v + (1 : Int32)) (nI c + (1 : Int32)) s))) else (k (nI v + (0 : Int32)) (nI c + (1 : Int32)) s))) (fun i s => PH s (dg c) i)
    (fun m s _ => by
      show f_X8_howMany_L50 (nI n) (nI n) (nI cl) (nI v) (nI c) k (m + 1) (nI n) s = _
      rw [f_X8_howMany_L50, if_pos (nI_le (Nat.le_refl _) (by omega))])
    (fun m i s hi hI => by
      refine ⟨upd s i (nI (dg c i)), ?_, fun j hj => ?_⟩
      · show f_X8_howMany_L50 (nI n) (nI n) (nI cl) (nI v) (nI c) k (m + 1) (nI i) s = f_X8_howMany_L50 (nI n) (nI n) (nI cl) (nI v) (nI c) k m (nI (i + 1)) _
        rw [f_X8_howMany_L50, if_neg (nI_ge hi (by omega)), if_neg (in_nI (by omega) (by decide)), nI_clamp (by omega), dig_at hc (by omega), nI_1]
        rfl
      · by_cases hji : j = i
        · subst hji; exact ⟨Nat.mod_lt _ (by omega), upd_s⟩
        · rw [upd_n hji]; exact hI j (by omega)) zF 0 a (by omega) (by omega) (fun j hj => by omega)
  refine ⟨a', ?_⟩
  have e' : f_X8_howMany_L50 (nI n) (nI n) (nI cl) (nI v) (nI c) k zF 0 a = _ := e
  have hsum : f_X8_sumOfHeights a' (nI n) = some (nI (SumTo (dg c) n)) := sum8_run hI (by omega) n 0 zF (by omega) (by omega)
  have hle : ∀ m, m ≤ 5 → SumTo (dg c) m ≤ 7 * m := by
    intro m
    induction m with
    | zero => intro _; exact Nat.le_refl _
    | succ m ih =>
      intro hm
      have h1 := ih (by omega)
      have h2 : dg c m < 8 := Nat.mod_lt _ (by omega)
      rw [SumTo]
      omega
  have hl := hle n n5
  have hmul : nI cl * nI n = nI (n * cl) := by rw [pk_mul, Nat.mul_comm]
  have hb2 : n * cl ≤ 5 * 7 := Nat.mul_le_mul n5 hcl
  rw [e', hsum, Option.bind_some, hmul, nI_1]
  obtain ⟨i1, i2⟩ := sound8_iff hI n1 (by omega)
  unfold pv
  by_cases hs : SumTo (dg c) n = n * cl
  · rw [if_pos (by rw [hs])]
    by_cases hi : Inj (dg c) n n
    · rw [i1 hi, Option.bind_some, if_neg h10, if_pos ⟨hs, hi⟩, nI_1]
    · rw [i2 hi, Option.bind_some, if_pos rfl, if_neg (fun h2 => hi h2.2), Int32.add_zero]
      rfl
  · rw [if_neg (nI_ne hs (by omega) (by omega)), if_neg (fun h2 => hs h2.1), Int32.add_zero]
    rfl
theorem pow8 : ∀ n, n < 6 → ((1 : Int32) <<< (((3 : Int32) * nI n) &&& 31)) = nI (8 ^ n) ∧ 8 ^ n ≤ 32768 := by decide +kernel
theorem codes_run (n1 : 1 ≤ n) (n5 : n ≤ 5) {cl : Nat} (hcl : cl ≤ 7) : ∀ (m c fuel : Nat) (a : Nat → Int32), c + m = 8 ^ n → m < fuel → ∃ a', f_X8_howMany_L37 (nI n) (nI n) (nI cl) fuel (nI (SumTo (fun c => pv n (n * cl) (dg c)) c)) (nI c) a = some (nI (SumTo (fun c => pv n (n * cl) (dg c)) (8 ^ n)), a', nI n) := by
  obtain ⟨w1, w2⟩ := pow8 n (by omega)
  intro m
  induction m with
  | zero =>
    intro c fuel a h1 h2
    obtain ⟨g, rfl⟩ : ∃ g, fuel = g + 1 := ⟨fuel - 1, by omega⟩
    obtain rfl : c = 8 ^ n := by omega
    refine ⟨a, ?_⟩
    rw [f_X8_howMany_L37, w1, if_pos (nI_le (Nat.le_refl _) (by omega))]
  | succ m ih =>
    intro c fuel a h1 h2
    obtain ⟨g, rfl⟩ : ∃ g, fuel = g + 1 := ⟨fuel - 1, by omega⟩
    obtain ⟨a', e⟩ := code_ok n1 n5 (cl := cl) (c := c) (v := SumTo (fun c => pv n (n * cl) (dg c)) c) hcl (by omega) (fun x3 x4 s => f_X8_howMany_L37 (nI n) (nI n) (nI cl) g x3 x4 s) a
    obtain ⟨a2, e2⟩ := ih (c + 1) g a' (by omega) (by omega)
    refine ⟨a2, ?_⟩
    rw [f_X8_howMany_L37, w1, if_neg (nI_ge (by omega) (by omega)), e]
    exact e2
end HR
theorem st_howMany {b_heights : (Nat → Int32)} {b_many : Int32} (p1 : Int32) (p2 : Int32) : ∃ (R1 : Int32) (R2 : Int32 × (Nat → Int32) × Int32), f_X7_howMany p1 p2 = some R1 ∧ f_X8_howMany b_heights b_many p1 p2 = some R2 ∧ R1 = R2.1 := by
  have hz : 32768 < zF := by decide
  unfold f_X7_howMany f_X8_howMany
  rw [in_within (p := p1) (lo := 1) (hi := 5) (by decide) (by decide), in_within (p := p2) (lo := 0) (hi := 7) (by decide) (by decide)]
  rcases within_lit (A := 1) (B := 5) p1 1 5 rfl rfl (by omega) (by omega) with h | ⟨n, n1, n5, rfl, h⟩
  · rw [h, Option.bind_some, Option.bind_some, if_pos rfl, if_pos rfl]
    exact ⟨_, _, rfl, rfl, rfl⟩
  · rw [h, Option.bind_some, Option.bind_some, if_neg h10, if_neg h10]
    rcases within_lit (A := 0) (B := 7) p2 0 7 rfl rfl (by omega) (by omega) with h | ⟨cl, -, c7, rfl, h⟩
    · rw [h, Option.bind_some, Option.bind_some, if_pos rfl, if_pos rfl]
      exact ⟨_, _, rfl, rfl, rfl⟩
    · rw [h, Option.bind_some, Option.bind_some, if_neg h10, if_neg h10, pk_mul]
      have hb2 : n * cl ≤ 5 * 7 := Nat.mul_le_mul n5 c7
      have w2 := (pow8 n (by omega)).2
      have e1 := ends_ok (n := n) (S := n * cl) n1 n5 (by omega) n 0 8 0 (fun _ => 0) (by omega) (by omega) (Nat.two_pow_pos n) (fun x hx => ⟨fun hm => by unfold mem at hm; rw [Nat.zero_div] at hm; omega, fun ⟨c, hc, _⟩ => by omega⟩) (Nat.zero_le _) (fun d hd => by omega)
      obtain ⟨a', e2⟩ := codes_run n1 n5 c7 (8 ^ n) 0 zF b_heights (by omega) (by omega)
      rw [show f_X7_soundEndings 8 (nI n) 0 0 (nI (n * cl)) = _ from e1, Option.bind_some]
      refine ⟨_, _, rfl, e2, ?_⟩
      rw [Ex_codes n (n * cl) n 0 _ (by omega)]
      show nI (SumTo _ _) = nI (SumTo _ _)
      congr 1
