/-! the monomials of n variables in the order o, as the class lists them; a monomial is its four exponents -/
def zHi (n : Nat) : Nat := if n = 1 then 30 else if n = 2 then 12 else if n = 3 then 7 else 5
def zCt (n : Nat) : Nat := if n = 1 then 31 else if n = 2 then 91 else if n = 3 then 120 else 126
/-- which variable is chosen at a depth, and which exponent at a step -/
def zV (o n d : Nat) : Nat := if o = 1 then d else n - 1 - d
def zE (o rest st : Nat) : Nat := if o = 1 then rest - st else st
/-- the monomials of a degree, with k variables still to be chosen -/
def zGen (o n : Nat) : Nat → Nat → List Nat → List (List Nat)
  | 0, _, _ => []
  | 1, rest, ch => [ch.set (zV o n (n - 1)) rest]
  | k + 2, rest, ch => (List.range (rest + 1)).flatMap fun st => zGen o n (k + 1) (rest - zE o rest st) (ch.set (zV o n (n - (k + 2))) (zE o rest st))
def zTab (n o : Nat) : List (List Nat) := (List.range (zHi n + 1)).flatMap fun d => zGen o n n (zHi n - d) [0, 0, 0, 0]
def zEx (n o v i : Nat) : Nat := ((zTab n o).getD i []).getD v 0
def zDg (n o i : Nat) : Nat := zEx n o 0 i + zEx n o 1 i + zEx n o 2 i + zEx n o 3 i
def zWt (n v : Nat) : Nat := if v < n then (zHi n + 1) ^ v else 0
def zKm (n : Nat) (e : List Nat) : Nat := e.getD 0 0 * zWt n 0 + e.getD 1 0 * zWt n 1 + e.getD 2 0 * zWt n 2 + e.getD 3 0 * zWt n 3
def zKy (n o i : Nat) : Nat := zKm n ((zTab n o).getD i [])
/-- what is decided, for one n and o -/
def zChk (n o : Nat) : Bool :=
  let T := zTab n o
  let K := T.map (zKm n)
  let D := T.map (fun e => e.getD 0 0 + e.getD 1 0 + e.getD 2 0 + e.getD 3 0)
  T.length == zCt n && T.all (fun e => e.length == 4 && (List.range 4).all (fun v => v < n || e.getD v 0 == 0)) && K.all (fun k => k < 1296) && D.all (fun d => d ≤ zHi n) &&
  (List.range (zCt n - 1)).all (fun i => D.getD (i + 1) 0 ≤ D.getD i 0)
theorem zChk_ok : ∀ n, n < 4 → ∀ o, o < 2 → zChk (n + 1) o = true := by decide +kernel
/-- all exponents up to the highest degree are listed -/
def zAll (n o : Nat) : Bool :=
  let T := zTab n o
  let h := zHi n
  (List.range (h + 1)).all fun a => (List.range (if 1 < n then h + 1 - a else 1)).all fun b => (List.range (if 2 < n then h + 1 - a - b else 1)).all fun c => (List.range (if 3 < n then h + 1 - a - b - c else 1)).all fun d => T.contains [a, b, c, d]
theorem zAll_ok : ∀ n, n < 4 → ∀ o, o < 2 → zAll (n + 1) o = true := by decide +kernel
/-- no key stands twice -/
def zNd : List Nat → Bool
  | [] => true
  | k :: l => !l.contains k && zNd l
theorem zNd_ok : ∀ n, n < 4 → ∀ o, o < 2 → zNd ((zTab (n + 1) o).map (zKm (n + 1))) = true := by decide +kernel
