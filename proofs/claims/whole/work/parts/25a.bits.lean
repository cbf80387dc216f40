/-! THE PAIR judge: the sets in their order, at most 252 of them known (written by wip/whole/gen/judge_part.py). -/
section MMY
theorem nx_a (a b : Nat) : nI a &&& nI b = nI (a &&& b) := by
  apply Int32.toBitVec_inj.1
  show BitVec.ofNat 32 a &&& BitVec.ofNat 32 b = BitVec.ofNat 32 (a &&& b)
  apply BitVec.eq_of_getLsbD_eq
  intro i hi
  simp [hi]
theorem nx_x (a b : Nat) : nI a ^^^ nI b = nI (a ^^^ b) := by
  apply Int32.toBitVec_inj.1
  show BitVec.ofNat 32 a ^^^ BitVec.ofNat 32 b = BitVec.ofNat 32 (a ^^^ b)
  apply BitVec.eq_of_getLsbD_eq
  intro i hi
  simp [hi]
theorem sh_l : ∀ n, n < 32 → ((nI n &&& 31).toBitVec.smod 32).toNat = n := by decide +kernel
/-- bits, one by one -/
def pcn (x : Nat) : Nat → Nat
  | 0 => 0
  | k + 1 => pcn x k + x / 2 ^ k % 2
theorem pcn_le (x k : Nat) : pcn x k ≤ k := by
  induction k with
  | zero => exact Nat.le_refl _
  | succ k ih => unfold pcn; have := Nat.mod_lt (x / 2 ^ k) (y := 2) (by decide); omega
theorem bit_m {x k : Nat} (hx : x < 2 ^ 31) (hk : k < 32) : (nI x >>> (nI k &&& 31)) &&& 1 = nI (x / 2 ^ k % 2) := by
  rw [pk_shrN hx (nI k &&& 31) k (sh_l k hk)]
  exact pk_andN (Nat.lt_of_le_of_lt (Nat.div_le_self _ _) (by omega)) 1 (by decide)
theorem g152_l {x : Nat} {M : Mem} (hx : x < 2 ^ 31) : ∀ (d k n : Nat), k + d = 24 → d < n → l_152_4 n (nI x) (nI (pcn x k)) (nI k) M = some (nI (pcn x 24)) := by
  intro d
  induction d with
  | zero =>
    intro k n hk hn
    obtain ⟨n, rfl⟩ : ∃ m', n = m' + 1 := ⟨n - 1, by omega⟩
    have hk : k = 24 := by omega
    subst hk
    rw [l_152_4, if_pos (by decide)]
  | succ d ih =>
    intro k n hk hn
    obtain ⟨n, rfl⟩ : ∃ m', n = m' + 1 := ⟨n - 1, by omega⟩
    rw [l_152_4, if_neg (k_ge (b := 24) (by rfl) (by rfl) (by omega) (by omega)), bit_m hx (by omega), nI_add, nI_1]
    exact ih (k + 1) n (by omega) (by omega)
theorem g152_ok {x : Nat} {M : Mem} (hx : x < 2 ^ 31) : g_152 (nI x) M = some (nI (pcn x 24)) := g152_l hx 24 0 5000 (by omega) (by omega)
theorem pcn_10 {x : Nat} (hx : x < 1024) : pcn x 24 = pc10 x := by
  unfold pc10
  simp only [pcn, Nat.reducePow]
  omega
end MMY
