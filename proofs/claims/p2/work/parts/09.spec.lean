/-- what feed answers and leaves, with n bytes on the tape -/
def sp_feed (n : Nat) : Int32 := if n + 20 ≤ 1000 then nI (n + 20) else -1
def nf_ (n : Nat) : Nat := if n + 20 ≤ 1000 then n + 20 else n
theorem sp_feed_yes {n : Nat} (h : n + 20 ≤ 1000) : nI (n + 20) = sp_feed n := by unfold sp_feed; rw [if_pos h]
theorem sp_feed_no {n : Nat} (h : ¬ n + 20 ≤ 1000) : (-1 : Int32) = sp_feed n := by unfold sp_feed; rw [if_neg h]
theorem nf_yes {n : Nat} (h : n + 20 ≤ 1000) : nf_ n = n + 20 := by unfold nf_; rw [if_pos h]
theorem nf_no {n : Nat} (h : ¬ n + 20 ≤ 1000) : nf_ n = n := by unfold nf_; rw [if_neg h]
theorem nf_le {n : Nat} (h : n ≤ 1000) : nf_ n ≤ 1000 := by unfold nf_; split <;> omega
