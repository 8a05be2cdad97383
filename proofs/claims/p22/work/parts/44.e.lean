/-! statements, pure: kinds, marks, which kind has which, numbers, how many others, even -/
abbrev BST : Type := List (List Nat) × List (List Nat) × List (List (List Nat)) × List (Nat × Nat × Nat) × Nat × Nat
section Stmt
variable (T N : Nat → Nat) (F : Nat) (V : Nat → Nat) (L : Nat → List Nat)
/-- own word c, then a number between lo and hi -/
def nmK (c lo hi q : Nat) : Option Nat := (psK T N c q).bind (fun r => if T r = 259 ∧ lo ≤ V r ∧ V r ≤ hi then some (N r) else none)
/-- marks behind the 'is' or ',' at q -/
def mkF (K : List (List Nat)) : Nat → List (List Nat) → List (List Nat) → Nat → Option ((List (List Nat) × List (List Nat)) × Nat)
  | 0, M, cur, q => some ((M, cur), q)
  | k + 1, M, cur, q =>
    if T (N q) = 258 ∧ ¬ L (N q) ∈ K ∧ ¬ L (N q) ∈ cur ∧ (L (N q) ∈ M ∨ M.length < 8) then
      (if T (N (N q)) = 44 then mkF K k (if L (N q) ∈ M then M else M ++ [L (N q)]) (cur ++ [L (N q)]) (N (N q)) else some ((if L (N q) ∈ M then M else M ++ [L (N q)], cur ++ [L (N q)]), N (N q)))
    else none
/-- a kind's statement, its first word at q: its numbers' places, marks, end -/
def kdS (K M : List (List Nat)) (q : Nat) : Option ((List (List Nat) × List (List Nat) × (Nat × Nat × Nat)) × Nat) :=
  if K.length < 10 ∧ T (N q) = 258 ∧ ¬ L (N q) ∈ K ∧ ¬ L (N q) ∈ M then
    (nmK T N V 262 1 500 (N (N q))).bind fun a => (nmK T N V 263 0 1000 a).bind fun b => (nmK T N V 264 0 200 b).bind fun c =>
      (if T c = 265 then mkF T N L (K ++ [L (N q)]) F M [] c else some ((M, []), c)).bind fun m => (psK T N 59 m.2).bind fun e => some ((m.1.1, m.1.2, (V (N (N (N q))), V (N a), V (N b))), e)
  else none
/-- a name that is a kind or a mark -/
def knK (K M : List (List Nat)) (q : Nat) : Bool := decide (L q ∈ K) || decide (L q ∈ M)
/-- never, likes, gifts: its first word at q -/
def clS (K M : List (List Nat)) (q : Nat) : Option Nat :=
  if T q = 266 ∨ T q = 268 ∨ T q = 270 then
    (if T q = 266 then some (N q) else sumD T N F 8 (N q)).bind fun a => (if T q = 268 then psK T N 269 a else some a).bind fun b => (if T q = 270 then some b else eitD T N F (atW T N (knK L K M)) 8 b).bind fun c =>
      (psK T N 267 c).bind fun d => (eitD T N F (atT T N F) 8 d).bind fun e => psK T N 59 e
  else none
/-- one statement -/
def stS (b : BST) (q : Nat) : Option (BST × Nat) :=
  if T q = 261 then (kdS T N F V L b.1 b.2.1 q).bind fun r => some ((b.1 ++ [L (N q)], r.1.1, b.2.2.1 ++ [r.1.2.1], b.2.2.2.1 ++ [r.1.2.2], b.2.2.2.2.1, b.2.2.2.2.2), r.2)
  else if b.2.2.2.2.1 < 24 then (if T q = 271 then (nmK T N V 271 0 1000 q).bind (psK T N 59) else clS T N F L b.1 b.2.1 q).bind fun e => some ((b.1, b.2.1, b.2.2.1, b.2.2.2.1, b.2.2.2.2.1 + 1, if T q = 271 then V (N q) else b.2.2.2.2.2), e)
  else none
/-- the whole text -/
def alF : Nat → BST → Nat → Option BST
  | 0, s, _ => some s
  | k + 1, s, q => if T q = 256 then some s else (stS T N F V L s q).bind fun r => alF k r.1 r.2
end Stmt
/-- what a text of n bytes g tells -/
def rdT (g : Nat → Nat) (n : Nat) : Option BST := alF (tkq g n) (nxq g n) 1001 (nvq g n) (ltq g n) 1001 ([], [], [], [], 0, 1000) 0
/-- what rules answers -/
def rlA (g : Nat → Nat) (n : Nat) : Int := match rdT g n with
  | none => -1
  | some s => (s.1.length : Int) + s.2.2.2.2.1
